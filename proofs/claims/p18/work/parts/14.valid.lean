/-! ===== THE PURE MACHINE, part 14: when a method's table is the method's ===== -/
/-- what the tables must say: tb the words, cl the classes, refs the texts in constant pools, xn and xu the names of what is thrown and of its superclasses -/
abbrev am_Ta : Type := List Cond × List vw_C × List (String × Nat × String × Nat) × (Nat → String) × List String
def am_fieldOk (K : am_Ta) (own : String) (idx a b : Nat) : Prop := ∃ C T N, K.2.1[a]? = some (C, T, N) ∧ b < N ∧ Cond.fieldLink own idx (T b).1 (T b).2.1 (T b).2.2.1 ∈ K.1
def am_classOk (K : am_Ta) (C : String) (T : u_T) (N : Nat) : Prop := (∀ w ∈ u_ws C T N, w ∈ K.1) ∧ (∀ a, a < N → ∀ b, b < N → a ≠ b → (T a).2.1 ≠ (T b).2.1)
/-- a method that is called: it can be entered -/
def am_entryOk (K : am_Ta) (me : am_M) (b : Nat) (this : Bool) : Prop :=
  (me.1.cls ≠ "java/lang/invoke/MethodHandle" ∧ me.1.cls ≠ "java/lang/invoke/VarHandle") ∧ plainFor me.1 = true ∧ me.2.2.1 ≤ 13 ∧ (∀ sig, parseMethodDescriptor me.1.desc = some sig → b = sig.parameters.length) ∧
  (Cond.code me.1 me.2.1 me.2.2.1 me.2.2.2.1 ∈ K.1 ∧ me.2.2.2.2.1 = [] ∨ Cond.codeWith me.1 me.2.1 me.2.2.1 me.2.2.2.1 me.2.2.2.2.1 ∈ K.1 ∧ this = false)
def am_V1 (E : am_En) (K : am_Ta) (cn : Nat → Nat) (pg : Nat → am_M) (me : am_M) (pc : Nat) (t : am_I) : Prop :=
  decode me.2.1 pc = .ok (t.1, t.2.1) ∧ am_len t.1 t.2.1 = true ∧ match t with
  | (i, len, a, b, c) => match i with
    | .getfield idx => (c = 0 → am_fieldOk K me.1.cls idx a b) ∧ (¬ c = 0 → (a = 1 ∧ Cond.fieldLink me.1.cls idx "java/lang/String" "value" "[B" ∈ K.1) ∨ (a = 2 ∧ Cond.fieldLink me.1.cls idx "java/lang/String" "coder" "B" ∈ K.1))
    | .putfield idx => ∃ C T N, K.2.1[a]? = some (C, T, N) ∧ b < N ∧ Cond.fieldLink me.1.cls idx (T b).1 (T b).2.1 (T b).2.2.1 ∈ K.1 ∧ ((T b).2.2.2 = false ∨ ((T b).2.2.2 = true ∧ me.1.name = "<init>" ∧ (T b).1 = me.1.cls)) ∧ parseFieldDescriptor (T b).2.2.1 = some (E.2.2.1 a b)
    | .newarray atype => newarray.typeOf atype = am_ty a ∧ Cond.arrayClass (newarray.typeOf atype) ∈ K.1
    | .anewarray idx => ∃ C, am_ty a = .object C ∧ Cond.classLink me.1.cls idx C ∈ K.1 ∧ Cond.arrayOver (.object C) ∈ K.1
    | .new idx => (c = 0 → ∃ C T N, K.2.1[a]? = some (C, T, N) ∧ Cond.classLink me.1.cls idx C ∈ K.1 ∧ Cond.instantiable C N ∈ K.1 ∧ Cond.initialized C ∈ K.1) ∧
        (¬ c = 0 → a < 3 ∧ decode me.2.1 (pc + 3) = .ok (.dup, 1) ∧ (∃ is ic text k, ((decode me.2.1 (pc + 4) = .ok (.ldc is, 2) ∧ b = 2) ∨ (decode me.2.1 (pc + 4) = .ok (.ldc_w is, 3) ∧ b = 3)) ∧ decode me.2.1 (pc + 4 + b) = .ok (.invokespecial ic, 3) ∧ decode me.2.1 (pc + 4 + b + 3) = .ok (.athrow, 1) ∧ (me.1.cls, is, text, k) ∈ K.2.2.1 ∧
          (∀ w ∈ Bundle.ownAtoms me.1.cls ic (K.2.2.2.1 a) K.2.2.2.2, am_xw w) ∧ (∀ w ∈ Bundle.ownAtoms me.1.cls ic (K.2.2.2.1 a) K.2.2.2.2, am_carry w = true → w ∈ K.1)) ∧ Cond.classLink me.1.cls idx (K.2.2.2.1 a) ∈ K.1 ∧ Cond.initialized (K.2.2.2.1 a) ∈ K.1)
    | .ldc idx => (c = 0 → Cond.constant me.1.cls idx (Int32.ofNat a) ∈ K.1) ∧ (¬ c = 0 → a < E.2.1.1.length ∧ ∃ tx, (me.1.cls, idx, tx, a) ∈ K.2.2.1)
    | .ldc_w idx => (c = 0 → Cond.constant me.1.cls idx (Int32.ofNat a) ∈ K.1) ∧ (¬ c = 0 → a < E.2.1.1.length ∧ ∃ tx, (me.1.cls, idx, tx, a) ∈ K.2.2.1)
    | .ldc2_w idx => Cond.constantLong me.1.cls idx (Int64.ofNat a) ∈ K.1
    | .getstatic idx => (c = 0 ∧ Cond.fieldLink me.1.cls idx "java/lang/String" "COMPACT_STRINGS" "Z" ∈ K.1) ∨ (¬ c = 0 ∧ Cond.fieldLink me.1.cls idx "jdk/internal/util/Preconditions" "SIOOBE_FORMATTER" "Ljava/util/function/BiFunction;" ∈ K.1)
    | .invokevirtual idx => (c = 0 ∨ c = 7) ∧ am_entryOk K (pg a) b true ∧ Cond.methodLink me.1.cls idx (pg a).1 ∈ K.1 ∧ Cond.instanceMethod (pg a).1 ∈ K.1 ∧
        (c = 0 → ∃ C T N, K.2.1[cn a]? = some (C, T, N) ∧ Cond.selects C (pg a).1 (pg a).1 ∈ K.1) ∧ (c = 7 → Cond.selects "java/lang/String" (pg a).1 (pg a).1 ∈ K.1)
    | .invokestatic idx => am_entryOk K (pg a) b false ∧ Cond.static (pg a).1 ∈ K.1 ∧ Cond.initialized (pg a).1.cls ∈ K.1 ∧
        ((c = 1 ∧ (pg a).2.2.2.2.1 = [] ∧ Cond.code (pg a).1 (pg a).2.1 (pg a).2.2.1 (pg a).2.2.2.1 ∈ K.1 ∧ Cond.methodLink me.1.cls idx (pg a).1 ∈ K.1) ∨
         (c = 2 ∧ (pg a).2.2.2.2.1 = [] ∧ Cond.code (pg a).1 (pg a).2.1 (pg a).2.2.1 (pg a).2.2.2.1 ∈ K.1 ∧ ∃ host, Cond.methodLinkNest me.1.cls idx (pg a).1 host ∈ K.1) ∨
         (c = 3 ∧ Cond.codeWith (pg a).1 (pg a).2.1 (pg a).2.2.1 (pg a).2.2.2.1 (pg a).2.2.2.2.1 ∈ K.1 ∧ Cond.methodLink me.1.cls idx (pg a).1 ∈ K.1))
    | .invokespecial idx => (c = 6 → b = 0 ∧ Cond.methodLink me.1.cls idx objectInit ∈ K.1 ∧ Cond.instanceMethod objectInit ∈ K.1 ∧ Cond.code objectInit ⟨#[0xb1]⟩ 1 none ∈ K.1) ∧
        (¬ c = 6 → (c = 4 ∨ c = 5) ∧ am_entryOk K (pg a) b true ∧ (pg a).1.name = "<init>" ∧ (pg a).2.2.2.1 = none ∧ Cond.instanceMethod (pg a).1 ∈ K.1 ∧ (c = 4 → Cond.methodLink me.1.cls idx (pg a).1 ∈ K.1) ∧ (c = 5 → ∃ host, Cond.methodLinkNest me.1.cls idx (pg a).1 host ∈ K.1))
    | _ => True
/-- a call of System.arraycopy -/
def am_Cp (K : am_Ta) (me : am_M) (pc : Nat) (t : am_I) : Prop := ∃ idx a b, t = (.invokestatic idx, 3, a, b, 9) ∧ decode me.2.1 pc = .ok (.invokestatic idx, 3) ∧ Cond.methodLink me.1.cls idx arraycopyName ∈ K.1 ∧ Cond.native arraycopyName ∈ K.1 ∧ Cond.static arraycopyName ∈ K.1 ∧ Cond.initialized "java/lang/System" ∈ K.1
def am_V (E : am_En) (K : am_Ta) (cn : Nat → Nat) (pg : Nat → am_M) (me : am_M) (pc : Nat) (t : am_I) : Prop := am_V1 E K cn pg me pc t ∨ am_Cp K me pc t
/-- the whole program's tables are right -/
def am_PV (E : am_En) (K : am_Ta) (cn : Nat → Nat) (pg : Nat → am_M) : Prop :=
  (∀ mi pc t, (pg mi).2.2.2.2.2 pc = some t → am_V E K cn pg (pg mi) pc t) ∧
  (∀ w ∈ K.1, am_carry w = true) ∧
  (∀ ci C T N, K.2.1[ci]? = some (C, T, N) → am_classOk K C T N ∧ (∀ k, k < N → parseFieldDescriptor (T k).2.2.1 = some (E.2.2.1 ci k)) ∧ (∀ j, j < N → defaultValue (E.2.2.1 ci j) = vp_V (E.2.2.2.1 ci) j) ∧ (E.2.2.2.1 ci).length = N ∧ (∀ v ∈ E.2.2.2.1 ci, ∀ ad : Nat → Nat, am_v ad v = v) ∧ ∀ k, am_okS k (E.2.2.2.1 ci)) ∧
  (∃ r4 r5, K.2.1[10]? = some r4 ∧ K.2.1[4]? = some r5 ∧ am_ty 4 = .object r4.1 ∧ am_ty 5 = .object r5.1) ∧
  (∀ x, Bundle.fit (K.2.2.2.1 x) = true) ∧ (∀ n ∈ K.2.2.2.2, Bundle.fit n = true) ∧ K.2.2.2.2.length = 2 ∧
  (∀ mi, ∀ r ∈ (pg mi).2.2.2.2.1, r.2.2.2 ≠ 0 ∧ E.2.2.2.2.2.1 r.2.2.2 < 3 ∧ Cond.classLink (pg mi).1.cls r.2.2.2 (K.2.2.2.1 (E.2.2.2.2.2.1 r.2.2.2)) ∈ K.1 ∧ Cond.castable (K.2.2.2.1 (E.2.2.2.2.2.1 r.2.2.2)) (K.2.2.2.1 (E.2.2.2.2.2.1 r.2.2.2)) ∈ K.1) ∧
  (∀ x, x < 3 → ∃ T, K.2.1[E.2.2.2.2.1 x]? = some (K.2.2.2.1 x, T, 0)) ∧ (∀ n, am_okv n E.2.2.2.2.2.2)
