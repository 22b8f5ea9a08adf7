/-! ===== THE PURE MACHINE, part 13: a step, a method, a call ===== -/
/-- an entry of a method's table: instruction, length, and what it links to -/
abbrev am_I : Type := Instr × Nat × Nat × Nat × Nat
/-- a method: name, bytes, locals, what it returns, rows that catch, its table -/
abbrev am_M : Type := MethodName × ByteArray × Nat × Option FieldType × List (Nat × Nat × Nat × Nat) × (Nat → Option am_I)
abbrev am_St : Type := Nat × List (Nat × Value) × List Value × List am_C × Nat × Nat
/-- how a method ends: with a value or none, or with the number of what it throws; the cells; how many cells and slots it made -/
abbrev am_Re : Type := (Option Value ⊕ Nat) × List am_C × Nat × Nat
abbrev am_SR : Type := Option (am_St ⊕ am_Re)
abbrev am_Ca : Type := Nat → List Value → List am_C → Option am_Re
def am_lift (r : am_R) (h : List am_C) (nc ns : Nat) : am_SR := match r with
  | some (pc, lv, st) => some (.inl (pc, lv, st, h, nc, ns))
  | none => none
def am_liftH (r : am_RH) (nc ns : Nat) : am_SR := match r with
  | some (pc, lv, st, h) => some (.inl (pc, lv, st, h, nc, ns))
  | none => none
def am_liftN (r : am_RN) (nc ns : Nat) : am_SR := match r with
  | some (pc, lv, st, h, n) => some (.inl (pc, lv, st, h, nc + 1, ns + n))
  | none => none
/-- the world around: the script, the texts, the fields' types, fresh objects' fields, which class a throw is of, which throw a row's class names, and a static of the JDK's that nobody asks -/
abbrev am_En : Type := (Nat × (Nat → Int32)) × (List Nat × List (List Int32)) × (Nat → Nat → FieldType) × (Nat → List Value) × (Nat → Nat) × (Nat → Nat) × Value
def am_iaload (E : am_En) : am_FH := fun pc lv st h => match st with
  | .int i :: .ref q :: r => if q < 1000000 then am_iald 0 pc lv (.int i :: .ref q :: r) h else am_xiald E.1.1 E.1.2 pc lv (.int i :: .ref q :: r) h
  | _ => none
def am_baload (E : am_En) : am_FH := fun pc lv st h => match st with
  | .int i :: .ref q :: r => if q < 1000000 then am_bald pc lv (.int i :: .ref q :: r) h else am_xbald E.2.1.1 E.2.1.2 pc lv (.int i :: .ref q :: r) h
  | _ => none
def am_alength (E : am_En) : am_FH := fun pc lv st h => match st with
  | .ref q :: r => if q < 1000000 then am_alen pc lv (.ref q :: r) h else am_xalen E.1.1 E.2.1.1 pc lv (.ref q :: r) h
  | _ => none
def am_getfield (E : am_En) (a b c : Nat) : am_FH := match c with
  | 0 => am_getf a b
  | _ => am_xgetf E.2.1.1 a
def am_ldc (len a c : Nat) : am_F := match c with
  | 0 => am_push (.int (Int32.ofNat a)) len
  | _ => am_push (.ref (am_kT a)) len
/-- the first row that covers the place and names the throw -/
def am_find (E : am_En) (rows : List (Nat × Nat × Nat × Nat)) (pc x : Nat) : Option Nat := match rows with
  | [] => none
  | r :: rs => if r.1 ≤ pc ∧ pc < r.2.1 then (if E.2.2.2.2.2.1 r.2.2.2 = x then some r.2.2.1 else am_find E rs pc x) else none
/-- whether a row covers the place -/
def am_covered (rows : List (Nat × Nat × Nat × Nat)) (pc : Nat) : Bool := rows.any (fun r => decide (r.1 ≤ pc) && decide (pc < r.2.1))
def am_back (E : am_En) (rows : List (Nat × Nat × Nat × Nat)) (pc : Nat) (lv : List (Nat × Value)) (rest : List Value) (nc ns : Nat) (r : Option am_Re) : am_SR := match r with
  | some (.inl v, h, k, n) => some (.inl (pc + 3, lv, v.toList ++ rest, h, nc + k, ns + n))
  | some (.inr x, h, k, n) => if am_covered rows pc = true then match am_find E rows pc x with
      | some t => if h.length < 1000000 then some (.inl (t, lv, [.ref h.length], h ++ [.inr (E.2.2.2.2.1 x, [])], nc + k, ns + n)) else none
      | none => none
    else some (.inr (.inr x, h, nc + k, ns + n))
  | none => none
def am_cat (st : List Value) : Nat := (st.map fun v => v.category).sum
/-- System.arraycopy, of bytes or of longs: what comes of the cell that is copied into -/
def am_cpc (n dp sp : Int32) (r : List Value) (c0 c : am_C) : Option am_C := match c0, c with
  | .inl (u0, n0, .inl f), .inl (u1, n1, .inl g) => if (u0 = 2 ∧ u1 = 2 ∧ am_cat r ≤ 8) ∧ (¬ sp < 0 ∧ ¬ dp < 0 ∧ ¬ n < 0 ∧ sp.toNatClampNeg + n.toNatClampNeg ≤ n0 ∧ dp.toNatClampNeg + n.toNatClampNeg ≤ n1) ∧ ∀ i, i < n.toNatClampNeg → fits .byte (.int (f (sp.toNatClampNeg + i))) = true then some (.inl (u1, n1, .inl (va_cpy f g sp.toNatClampNeg dp.toNatClampNeg n.toNatClampNeg))) else none
  | .inl (u0, n0, .inr (.inl f)), .inl (u1, n1, .inr (.inl g)) => if (u0 = 1 ∧ u1 = 1 ∧ am_cat r ≤ 8) ∧ (¬ sp < 0 ∧ ¬ dp < 0 ∧ ¬ n < 0 ∧ sp.toNatClampNeg + n.toNatClampNeg ≤ n0 ∧ dp.toNatClampNeg + n.toNatClampNeg ≤ n1) then some (.inl (u1, n1, .inr (.inl (va_cpy f g sp.toNatClampNeg dp.toNatClampNeg n.toNatClampNeg)))) else none
  | _, _ => none
def am_copy : am_FH := fun pc lv st h => match st with
  | .int n :: .int dp :: .ref q :: .int sp :: .ref q0 :: r => match h[q0]?, h[q]? with
    | some c0, some c => match am_cpc n dp sp r c0 c with
      | some c' => some (pc + 3, lv, r, h.set q c')
      | none => none
    | _, _ => none
  | _ => none
/-- calls: 0 of an object of ours, 1 static, 2 static of the nest, 3 static with rows, 4 a constructor, 5 a constructor of the nest, 6 Object's own, 7 of a text -/
def am_invoke (E : am_En) (call : am_Ca) (rows : List (Nat × Nat × Nat × Nat)) (cn : Nat → Nat) (a b c : Nat) (S : am_St) : am_SR := match S with
  | (pc, lv, st, h, nc, ns) => if b ≤ st.length then match c, st.drop b with
      | 6, .ref _ :: rest => if am_cat rest ≤ 8 then some (.inl (pc + 3, lv, rest, h, nc, ns)) else none
      | 0, .ref q :: rest => match h[q]? with
        | some (.inr (cj, _)) => if cj = cn a ∧ am_cat rest ≤ 8 then am_back E rows pc lv rest nc ns (call a (.ref q :: (st.take b).reverse) h) else none
        | _ => none
      | 7, .ref q :: rest => if (q = am_kT ((q - 1000001) / 2) ∧ (q - 1000001) / 2 < E.2.1.1.length) ∧ am_cat rest ≤ 8 then am_back E rows pc lv rest nc ns (call a (.ref q :: (st.take b).reverse) h) else none
      | 4, .ref q :: rest => if am_cat rest ≤ 8 then am_back E rows pc lv rest nc ns (call a (.ref q :: (st.take b).reverse) h) else none
      | 5, .ref q :: rest => if am_cat rest ≤ 8 then am_back E rows pc lv rest nc ns (call a (.ref q :: (st.take b).reverse) h) else none
      | 1, rest => if am_cat rest ≤ 8 then am_back E rows pc lv rest nc ns (call a (st.take b).reverse h) else none
      | 2, rest => if am_cat rest ≤ 8 then am_back E rows pc lv rest nc ns (call a (st.take b).reverse h) else none
      | 3, rest => if am_cat rest ≤ 8 then am_back E rows pc lv rest nc ns (call a (st.take b).reverse h) else none
      | _, _ => none
    else none
def am_ireturn (ret : Option FieldType) (st : List Value) (h : List am_C) (nc ns : Nat) : am_SR := match st with
  | [.int v] => match ret with
    | some .int => some (.inr (.inl (some (.int v)), h, nc, ns))
    | some .boolean => if v = 0 ∨ v = 1 then some (.inr (.inl (some (.int v)), h, nc, ns)) else none
    | some .char => if ¬ v < 0 ∧ v.toNatClampNeg < 65536 then some (.inr (.inl (some (.int v)), h, nc, ns)) else none
    | some .byte => if narrow .byte (.int v) = .int v then some (.inr (.inl (some (.int v)), h, nc, ns)) else none
    | _ => none
  | _ => none
def am_lreturn (ret : Option FieldType) (st : List Value) (h : List am_C) (nc ns : Nat) : am_SR := match st, ret with
  | [.long v], some .long => some (.inr (.inl (some (.long v)), h, nc, ns))
  | _, _ => none
def am_areturn (ret : Option FieldType) (st : List Value) (h : List am_C) (nc ns : Nat) : am_SR := match st, ret with
  | [.ref v], some (.object _) => some (.inr (.inl (some (.ref v)), h, nc, ns))
  | [.null], some (.object _) => some (.inr (.inl (some .null), h, nc, ns))
  | _, _ => none
def am_return (ret : Option FieldType) (st : List Value) (h : List am_C) (nc ns : Nat) : am_SR := match st, ret with
  | [], none => some (.inr (.inl none, h, nc, ns))
  | _, _ => none
/-- new: 0 an object, 1 what is thrown at once (b: how long the instruction is that loads its text) -/
def am_make (E : am_En) (dd : Nat) (rows : List (Nat × Nat × Nat × Nat)) (a b c : Nat) (S : am_St) : am_SR := match S with
  | (pc, lv, st, h, nc, ns) => match c with
    | 0 => am_liftN (am_new a (E.2.2.2.1 a) pc lv st h) nc ns
    | _ => if 6 ≤ dd ∧ am_cat st ≤ 8 ∧ am_covered rows (pc + 4 + b + 3) = false then some (.inr (.inr a, h, nc + 1, ns + 6)) else none
def am_step (E : am_En) (cn : Nat → Nat) (dd : Nat) (call : am_Ca) (me : am_M) (t : am_I) (S : am_St) : am_SR := match t with
  | (i, len, a, b, c) => match i with
    | .getfield _ => am_liftH (am_getfield E a b c S.1 S.2.1 S.2.2.1 S.2.2.2.1) S.2.2.2.2.1 S.2.2.2.2.2
    | .putfield _ => am_liftH (am_putf a b (E.2.2.1 a b) S.1 S.2.1 S.2.2.1 S.2.2.2.1) S.2.2.2.2.1 S.2.2.2.2.2
    | .iaload => am_liftH (am_iaload E S.1 S.2.1 S.2.2.1 S.2.2.2.1) S.2.2.2.2.1 S.2.2.2.2.2
    | .baload => am_liftH (am_baload E S.1 S.2.1 S.2.2.1 S.2.2.2.1) S.2.2.2.2.1 S.2.2.2.2.2
    | .laload => am_liftH (am_lald S.1 S.2.1 S.2.2.1 S.2.2.2.1) S.2.2.2.2.1 S.2.2.2.2.2
    | .aaload => am_liftH (am_aald S.1 S.2.1 S.2.2.1 S.2.2.2.1) S.2.2.2.2.1 S.2.2.2.2.2
    | .iastore => am_liftH (am_iast S.1 S.2.1 S.2.2.1 S.2.2.2.1) S.2.2.2.2.1 S.2.2.2.2.2
    | .bastore => am_liftH (am_bast S.1 S.2.1 S.2.2.1 S.2.2.2.1) S.2.2.2.2.1 S.2.2.2.2.2
    | .lastore => am_liftH (am_last S.1 S.2.1 S.2.2.1 S.2.2.2.1) S.2.2.2.2.1 S.2.2.2.2.2
    | .aastore => am_liftH (am_aast 10 4 S.1 S.2.1 S.2.2.1 S.2.2.2.1) S.2.2.2.2.1 S.2.2.2.2.2
    | .arraylength => am_liftH (am_alength E S.1 S.2.1 S.2.2.1 S.2.2.2.1) S.2.2.2.2.1 S.2.2.2.2.2
    | .newarray _ => am_liftN (am_newa a S.1 S.2.1 S.2.2.1 S.2.2.2.1) S.2.2.2.2.1 S.2.2.2.2.2
    | .anewarray _ => am_liftN (am_newq a S.1 S.2.1 S.2.2.1 S.2.2.2.1) S.2.2.2.2.1 S.2.2.2.2.2
    | .new _ => am_make E dd me.2.2.2.2.1 a b c S
    | .ldc _ => am_lift (am_ldc 2 a c me.2.2.1 S.1 S.2.1 S.2.2.1) S.2.2.2.1 S.2.2.2.2.1 S.2.2.2.2.2
    | .ldc_w _ => am_lift (am_ldc 3 a c me.2.2.1 S.1 S.2.1 S.2.2.1) S.2.2.2.1 S.2.2.2.2.1 S.2.2.2.2.2
    | .ldc2_w _ => am_lift (am_push (.long (Int64.ofNat a)) 3 me.2.2.1 S.1 S.2.1 S.2.2.1) S.2.2.2.1 S.2.2.2.2.1 S.2.2.2.2.2
    | .getstatic _ => am_lift (am_push (am_gs E.2.2.2.2.2.2 c) 3 me.2.2.1 S.1 S.2.1 S.2.2.1) S.2.2.2.1 S.2.2.2.2.1 S.2.2.2.2.2
    | .invokevirtual _ => am_invoke E call me.2.2.2.2.1 cn a b c S
    | .invokespecial _ => am_invoke E call me.2.2.2.2.1 cn a b c S
    | .invokestatic _ => (match c with
      | 9 => am_liftH (am_copy S.1 S.2.1 S.2.2.1 S.2.2.2.1) S.2.2.2.2.1 S.2.2.2.2.2
      | _ => am_invoke E call me.2.2.2.2.1 cn a b c S)
    | .ireturn => am_ireturn me.2.2.2.1 S.2.2.1 S.2.2.2.1 S.2.2.2.2.1 S.2.2.2.2.2
    | .lreturn => am_lreturn me.2.2.2.1 S.2.2.1 S.2.2.2.1 S.2.2.2.2.1 S.2.2.2.2.2
    | .areturn => am_areturn me.2.2.2.1 S.2.2.1 S.2.2.2.1 S.2.2.2.2.1 S.2.2.2.2.2
    | .return_ => am_return me.2.2.2.1 S.2.2.1 S.2.2.2.1 S.2.2.2.2.1 S.2.2.2.2.2
    | _ => am_lift (am_pure i len me.2.2.1 S.1 S.2.1 S.2.2.1) S.2.2.2.1 S.2.2.2.2.1 S.2.2.2.2.2
def am_run (E : am_En) (cn : Nat → Nat) (dd : Nat) (call : am_Ca) (me : am_M) (n : Nat) (S : am_St) : Option am_Re := match n with
  | 0 => none
  | n + 1 => match me.2.2.2.2.2 S.1 with
    | some t => match am_step E cn dd call me t S with
      | some (.inl S') => am_run E cn dd call me n S'
      | some (.inr r) => some r
      | none => none
    | none => none
/-- a call at depth d: every method's own walk has as much fuel -/
def am_call (E : am_En) (cn : Nat → Nat) (pg : Nat → am_M) (fuel : Nat) (d : Nat) : am_Ca := match d with
  | 0 => fun _ _ _ => none
  | d + 1 => fun mi av h => if am_cat av ≤ (pg mi).2.2.1 then am_run E cn (d + 1) (am_call E cn pg fuel d) (pg mi) fuel (0, lv_args 0 av, [], h, 0, 0) else none
