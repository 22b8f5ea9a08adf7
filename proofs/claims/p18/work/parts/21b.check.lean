/-! ===== THE PURE MACHINE, part 24: when a table's entry is right, by reckoning ===== -/
def am_fw (cl : List vw_C) (own : String) (idx a b : Nat) : List Cond := match cl[a]? with
  | some q => [.fieldLink own idx (q.2.1 b).1 (q.2.1 b).2.1 (q.2.1 b).2.2.1]
  | none => []
/-- the words that an entry needs -/
def am_ws (cl : List vw_C) (xn : Nat → String) (cn : Nat → Nat) (pg : Nat → am_M) (own : String) (t : am_I) : List Cond := match t with
  | (i, _, a, b, c) => match i with
    | .getfield idx => (match c with
      | 0 => am_fw cl own idx a b
      | _ => (match a with
        | 1 => [.fieldLink own idx "java/lang/String" "value" "[B"]
        | _ => [.fieldLink own idx "java/lang/String" "coder" "B"]))
    | .putfield idx => am_fw cl own idx a b
    | .newarray at9 => [.arrayClass (newarray.typeOf at9)]
    | .anewarray idx => (match am_ty a with
      | .object C => [.classLink own idx C, .arrayOver (.object C)]
      | _ => [])
    | .new idx => (match c with
      | 0 => (match cl[a]? with
        | some q => [.classLink own idx q.1, .instantiable q.1 q.2.2, .initialized q.1]
        | none => [])
      | _ => [.classLink own idx (xn a), .initialized (xn a)])
    | .ldc idx => (match c with
      | 0 => [.constant own idx (Int32.ofNat a)]
      | _ => [])
    | .ldc_w idx => (match c with
      | 0 => [.constant own idx (Int32.ofNat a)]
      | _ => [])
    | .ldc2_w idx => [.constantLong own idx (Int64.ofNat a)]
    | .getstatic idx => (match c with
      | 0 => [.fieldLink own idx "java/lang/String" "COMPACT_STRINGS" "Z"]
      | _ => [.fieldLink own idx "jdk/internal/util/Preconditions" "SIOOBE_FORMATTER" "Ljava/util/function/BiFunction;"])
    | .invokevirtual idx => [.methodLink own idx (pg a).1, .instanceMethod (pg a).1, .selects (match c with
      | 0 => (match cl[cn a]? with
        | some q => q.1
        | none => "")
      | _ => "java/lang/String") (pg a).1 (pg a).1]
    | .invokestatic idx => (match c with
      | 9 => [.methodLink own idx arraycopyName, .native arraycopyName, .static arraycopyName, .initialized "java/lang/System"]
      | 1 => [.static (pg a).1, .initialized (pg a).1.cls, .methodLink own idx (pg a).1]
      | 2 => [.static (pg a).1, .initialized (pg a).1.cls, .methodLinkNest own idx (pg a).1 "PacketWorks"]
      | _ => [.static (pg a).1, .initialized (pg a).1.cls, .methodLink own idx (pg a).1])
    | .invokespecial idx => (match c with
      | 6 => [.methodLink own idx objectInit, .instanceMethod objectInit, .code objectInit ⟨#[0xb1]⟩ 1 none]
      | 4 => [.instanceMethod (pg a).1, .methodLink own idx (pg a).1]
      | _ => [.instanceMethod (pg a).1, .methodLinkNest own idx (pg a).1 "PacketWorks"])
    | _ => []
/-- what a method must be to be entered -/
def am_eo (me : am_M) (b : Nat) : Bool := me.1.cls != "java/lang/invoke/MethodHandle" && me.1.cls != "java/lang/invoke/VarHandle" && plainFor me.1 && decide (me.2.2.1 ≤ 13) && (match parseMethodDescriptor me.1.desc with
  | some sig => decide (b = sig.parameters.length)
  | none => true)
/-- what else an entry needs; XL: throws that are looked through (class, entry of the constructor, number) -/
def am_sd (E : am_En) (cl : List vw_C) (refs : List (String × Nat × String × Nat)) (cn : Nat → Nat) (pg : Nat → am_M) (np : Nat → Nat) (cd : Nat → Bool) (XL : List (String × Nat × Nat)) (me : am_M) (pc : Nat) (t : am_I) : Bool := match t with
  | (i, _, a, b, c) => match i with
    | .getfield _ => (match c with
      | 0 => (match cl[a]? with
        | some q => decide (b < q.2.2)
        | none => false)
      | _ => decide (a = 1) || decide (a = 2))
    | .putfield _ => (match cl[a]? with
      | some q => decide (b < q.2.2) && (!(q.2.1 b).2.2.2 || (me.1.name == "<init>" && (q.2.1 b).1 == me.1.cls)) && decide (parseFieldDescriptor (q.2.1 b).2.2.1 = some (E.2.2.1 a b))
      | none => false)
    | .newarray at9 => decide (newarray.typeOf at9 = am_ty a)
    | .anewarray _ => (match am_ty a with
      | .object _ => true
      | _ => false)
    | .new _ => (match c with
      | 0 => (cl[a]?).isSome
      | _ => decide (a < 3) && decide (decode me.2.1 (pc + 3) = .ok (.dup, 1)) && decide (decode me.2.1 (pc + 4 + b + 3) = .ok (.athrow, 1)) &&
        (match decode me.2.1 (pc + 4 + b) with
          | .ok (.invokespecial ic, 3) => XL.contains (me.1.cls, ic, a)
          | _ => false) &&
        (match decode me.2.1 (pc + 4) with
          | .ok (.ldc is, 2) => decide (b = 2) && refs.any (fun q => q.1 == me.1.cls && q.2.1 == is)
          | .ok (.ldc_w is, 3) => decide (b = 3) && refs.any (fun q => q.1 == me.1.cls && q.2.1 == is)
          | _ => false))
    | .ldc idx => (match c with
      | 0 => true
      | _ => decide (a < E.2.1.1.length) && refs.any (fun q => q.1 == me.1.cls && q.2.1 == idx && q.2.2.2 == a))
    | .ldc_w idx => (match c with
      | 0 => true
      | _ => decide (a < E.2.1.1.length) && refs.any (fun q => q.1 == me.1.cls && q.2.1 == idx && q.2.2.2 == a))
    | .invokevirtual _ => cd a && decide (b = np a) && (pg a).2.2.2.2.1.isEmpty && (match c with
      | 0 => (cl[cn a]?).isSome
      | 7 => true
      | _ => false)
    | .invokestatic _ => (match c with
      | 9 => true
      | 1 => cd a && decide (b = np a) && (pg a).2.2.2.2.1.isEmpty
      | 2 => cd a && decide (b = np a) && (pg a).2.2.2.2.1.isEmpty
      | 3 => cd a && decide (b = np a) && !(pg a).2.2.2.2.1.isEmpty
      | _ => false)
    | .invokespecial _ => (match c with
      | 6 => decide (b = 0)
      | 4 => cd a && decide (b = np a) && (pg a).2.2.2.2.1.isEmpty && (pg a).1.name == "<init>" && (pg a).2.2.2.1.isNone
      | 5 => cd a && decide (b = np a) && (pg a).2.2.2.2.1.isEmpty && (pg a).1.name == "<init>" && (pg a).2.2.2.1.isNone
      | _ => false)
    | _ => true
theorem am_eo_ok {me : am_M} {b : Nat} (h : am_eo me b = true) : (me.1.cls ≠ "java/lang/invoke/MethodHandle" ∧ me.1.cls ≠ "java/lang/invoke/VarHandle") ∧ plainFor me.1 = true ∧ me.2.2.1 ≤ 13 ∧ (∀ sig, parseMethodDescriptor me.1.desc = some sig → b = sig.parameters.length) := by
  unfold am_eo at h
  simp only [Bool.and_eq_true, bne_iff_ne, decide_eq_true_eq] at h
  obtain ⟨⟨⟨⟨h1, h2⟩, h3⟩, h4⟩, h5⟩ := h
  refine ⟨⟨h1, h2⟩, h3, h4, fun sig hs => ?_⟩
  rw [hs] at h5
  exact of_decide_eq_true h5
theorem am_fw_ok {K : am_Ta} {own : String} {idx a b : Nat} (hw : ∀ w ∈ am_fw K.2.1 own idx a b, w ∈ K.1) {q : vw_C} (hq : K.2.1[a]? = some q) : Cond.fieldLink own idx (q.2.1 b).1 (q.2.1 b).2.1 (q.2.1 b).2.2.1 ∈ K.1 := by
  unfold am_fw at hw
  rw [hq] at hw
  exact hw _ List.mem_cons_self
set_option maxHeartbeats 2000000 in
theorem am_vb1_ok {E : am_En} {K : am_Ta} {cn : Nat → Nat} {pg : Nat → am_M} {np : Nat → Nat} {cd : Nat → Bool} {XL : List (String × Nat × Nat)} {me : am_M} {pc : Nat} {t : am_I} (heo : ∀ a, am_eo (pg a) (np a) = true) (hcd : ∀ a, cd a = true → ((pg a).2.2.2.2.1 = [] → Cond.code (pg a).1 (pg a).2.1 (pg a).2.2.1 (pg a).2.2.2.1 ∈ K.1) ∧ (¬ (pg a).2.2.2.2.1 = [] → Cond.codeWith (pg a).1 (pg a).2.1 (pg a).2.2.1 (pg a).2.2.2.1 (pg a).2.2.2.2.1 ∈ K.1))
    (hXL : ∀ q ∈ XL, (∀ w ∈ Bundle.ownAtoms q.1 q.2.1 (K.2.2.2.1 q.2.2) K.2.2.2.2, am_xw w) ∧ (∀ w ∈ Bundle.ownAtoms q.1 q.2.1 (K.2.2.2.1 q.2.2) K.2.2.2.2, am_carry w = true → w ∈ K.1))
    (hd : decode me.2.1 pc = .ok (t.1, t.2.1)) (hlen : am_len t.1 t.2.1 = true) (hw : ∀ w ∈ am_ws K.2.1 K.2.2.2.1 cn pg me.1.cls t, w ∈ K.1) (hs : am_sd E K.2.1 K.2.2.1 cn pg np cd XL me pc t = true) (h9 : ∀ idx, t.1 = .invokestatic idx → t.2.2.2.2 ≠ 9) : am_V1 E K cn pg me pc t := by
  obtain ⟨i, len, a, b, c⟩ := t
  refine ⟨hd, hlen, ?_⟩
  dsimp only
  unfold am_ws at hw
  unfold am_sd at hs
  dsimp only at hw hs
  split
  · -- getfield
    rename_i idx
    refine ⟨fun hc => ?_, fun hc => ?_⟩
    · subst hc
      have hw2 : ∀ w ∈ am_fw K.2.1 me.1.cls idx a b, w ∈ K.1 := hw
      have hs2 : (match K.2.1[a]? with
        | some q => decide (b < q.2.2)
        | none => false) = true := hs
      cases hq : K.2.1[a]? with
      | none => rw [hq] at hs2; cases hs2
      | some q =>
        rw [hq] at hs2
        exact ⟨q.1, q.2.1, q.2.2, hq, of_decide_eq_true hs2, am_fw_ok hw2 hq⟩
    · cases c with
      | zero => exact absurd rfl hc
      | succ n =>
        have hs : (decide (a = 1) || decide (a = 2)) = true := hs
        rw [Bool.or_eq_true, decide_eq_true_eq, decide_eq_true_eq] at hs
        rcases hs with rfl | rfl
        · exact Or.inl ⟨rfl, hw _ List.mem_cons_self⟩
        · exact Or.inr ⟨rfl, hw _ List.mem_cons_self⟩
  · -- putfield
    rename_i idx
    have hw2 : ∀ w ∈ am_fw K.2.1 me.1.cls idx a b, w ∈ K.1 := hw
    have hs2 : (match K.2.1[a]? with
      | some q => decide (b < q.2.2) && (!(q.2.1 b).2.2.2 || (me.1.name == "<init>" && (q.2.1 b).1 == me.1.cls)) && decide (parseFieldDescriptor (q.2.1 b).2.2.1 = some (E.2.2.1 a b))
      | none => false) = true := hs
    cases hq : K.2.1[a]? with
    | none => rw [hq] at hs2; cases hs2
    | some q =>
      rw [hq] at hs2
      have hs3 : (decide (b < q.2.2) && (!(q.2.1 b).2.2.2 || (me.1.name == "<init>" && (q.2.1 b).1 == me.1.cls)) && decide (parseFieldDescriptor (q.2.1 b).2.2.1 = some (E.2.2.1 a b))) = true := hs2
      simp only [Bool.and_eq_true, decide_eq_true_eq, Bool.or_eq_true, Bool.not_eq_true', beq_iff_eq] at hs3
      obtain ⟨⟨h1, h2⟩, h3⟩ := hs3
      refine ⟨q.1, q.2.1, q.2.2, rfl, h1, am_fw_ok hw2 hq, ?_, h3⟩
      rcases h2 with h2 | h2
      · exact Or.inl h2
      · cases hf : (q.2.1 b).2.2.2 with
        | false => exact Or.inl rfl
        | true => exact Or.inr ⟨rfl, h2.1, h2.2⟩
  · exact ⟨of_decide_eq_true hs, hw _ List.mem_cons_self⟩
  · -- anewarray
    rename_i idx
    have hw2 : ∀ w ∈ (match am_ty a with
      | .object C => [Cond.classLink me.1.cls idx C, Cond.arrayOver (.object C)]
      | _ => []), w ∈ K.1 := hw
    have hs2 : (match am_ty a with
      | .object _ => true
      | _ => false) = true := hs
    cases hC : am_ty a with
    | object C =>
      rw [hC] at hw2
      exact ⟨C, rfl, hw2 _ List.mem_cons_self, hw2 _ (List.mem_cons_of_mem _ List.mem_cons_self)⟩
    | _ => rw [hC] at hs2; cases hs2
  · -- new
    rename_i idx
    refine ⟨fun hc => ?_, fun hc => ?_⟩
    · subst hc
      have hw : ∀ w ∈ (match K.2.1[a]? with
        | some q => [Cond.classLink me.1.cls idx q.1, Cond.instantiable q.1 q.2.2, Cond.initialized q.1]
        | none => []), w ∈ K.1 := hw
      have hs : (K.2.1[a]?).isSome = true := hs
      obtain ⟨q, hq⟩ := Option.isSome_iff_exists.mp hs
      rw [hq] at hw
      exact ⟨q.1, q.2.1, q.2.2, hq, hw _ List.mem_cons_self, hw _ (List.mem_cons_of_mem _ List.mem_cons_self), hw _ (List.mem_cons_of_mem _ (List.mem_cons_of_mem _ List.mem_cons_self))⟩
    · cases c with
      | zero => exact absurd rfl hc
      | succ n =>
        have hs : (decide (a < 3) && decide (decode me.2.1 (pc + 3) = .ok (.dup, 1)) && decide (decode me.2.1 (pc + 4 + b + 3) = .ok (.athrow, 1)) &&
          (match decode me.2.1 (pc + 4 + b) with
            | .ok (.invokespecial ic, 3) => XL.contains (me.1.cls, ic, a)
            | _ => false) &&
          (match decode me.2.1 (pc + 4) with
            | .ok (.ldc is, 2) => decide (b = 2) && K.2.2.1.any (fun q => q.1 == me.1.cls && q.2.1 == is)
            | .ok (.ldc_w is, 3) => decide (b = 3) && K.2.2.1.any (fun q => q.1 == me.1.cls && q.2.1 == is)
            | _ => false)) = true := hs
        simp only [Bool.and_eq_true, decide_eq_true_eq] at hs
        obtain ⟨⟨⟨⟨h1, h2⟩, h3⟩, h4⟩, h5⟩ := hs
        have hic : ∃ ic, decode me.2.1 (pc + 4 + b) = .ok (.invokespecial ic, 3) ∧ (me.1.cls, ic, a) ∈ XL := by
          split at h4
          · rename_i ic hdc
            exact ⟨ic, hdc, List.contains_iff_mem.mp h4⟩
          · cases h4
        obtain ⟨ic, hic, hmem⟩ := hic
        have his : ∃ is tx k, ((decode me.2.1 (pc + 4) = .ok (.ldc is, 2) ∧ b = 2) ∨ (decode me.2.1 (pc + 4) = .ok (.ldc_w is, 3) ∧ b = 3)) ∧ (me.1.cls, is, tx, k) ∈ K.2.2.1 := by
          have hany : ∀ is : Nat, (K.2.2.1.any (fun q => q.1 == me.1.cls && q.2.1 == is)) = true → ∃ tx k, (me.1.cls, is, tx, k) ∈ K.2.2.1 := fun is hz => by
            obtain ⟨q, hq, hz⟩ := List.any_eq_true.mp hz
            simp only [Bool.and_eq_true, beq_iff_eq] at hz
            obtain ⟨q1, q2, q3, q4⟩ := q
            obtain ⟨e1, e2⟩ := hz
            have e1 : q1 = me.1.cls := e1
            have e2 : q2 = is := e2
            rw [e1, e2] at hq
            exact ⟨_, _, hq⟩
          split at h5
          · rename_i is hdc
            simp only [Bool.and_eq_true, decide_eq_true_eq] at h5
            obtain ⟨tx, k, hk⟩ := hany _ h5.2
            exact ⟨is, tx, k, Or.inl ⟨hdc, h5.1⟩, hk⟩
          · rename_i is hdc
            simp only [Bool.and_eq_true, decide_eq_true_eq] at h5
            obtain ⟨tx, k, hk⟩ := hany _ h5.2
            exact ⟨is, tx, k, Or.inr ⟨hdc, h5.1⟩, hk⟩
          · cases h5
        obtain ⟨is, tx, k, his, hk⟩ := his
        exact ⟨h1, h2, ⟨is, ic, tx, k, his, hic, h3, hk, hXL _ hmem⟩, hw _ List.mem_cons_self, hw _ (List.mem_cons_of_mem _ List.mem_cons_self)⟩
  · -- ldc
    rename_i idx
    refine ⟨fun hc => ?_, fun hc => ?_⟩
    · subst hc
      exact hw _ List.mem_cons_self
    · cases c with
      | zero => exact absurd rfl hc
      | succ n =>
        have hs : (decide (a < E.2.1.1.length) && K.2.2.1.any (fun q => q.1 == me.1.cls && q.2.1 == idx && q.2.2.2 == a)) = true := hs
        rw [Bool.and_eq_true, decide_eq_true_eq] at hs
        obtain ⟨q, hq, hz⟩ := List.any_eq_true.mp hs.2
        simp only [Bool.and_eq_true, beq_iff_eq] at hz
        obtain ⟨q1, q2, q3, q4⟩ := q
        obtain ⟨⟨e1, e2⟩, e3⟩ := hz
        have e1 : q1 = me.1.cls := e1
        have e2 : q2 = idx := e2
        have e3 : q4 = a := e3
        rw [e1, e2, e3] at hq
        exact ⟨hs.1, _, hq⟩
  · -- ldc_w
    rename_i idx
    refine ⟨fun hc => ?_, fun hc => ?_⟩
    · subst hc
      exact hw _ List.mem_cons_self
    · cases c with
      | zero => exact absurd rfl hc
      | succ n =>
        have hs : (decide (a < E.2.1.1.length) && K.2.2.1.any (fun q => q.1 == me.1.cls && q.2.1 == idx && q.2.2.2 == a)) = true := hs
        rw [Bool.and_eq_true, decide_eq_true_eq] at hs
        obtain ⟨q, hq, hz⟩ := List.any_eq_true.mp hs.2
        simp only [Bool.and_eq_true, beq_iff_eq] at hz
        obtain ⟨q1, q2, q3, q4⟩ := q
        obtain ⟨⟨e1, e2⟩, e3⟩ := hz
        have e1 : q1 = me.1.cls := e1
        have e2 : q2 = idx := e2
        have e3 : q4 = a := e3
        rw [e1, e2, e3] at hq
        exact ⟨hs.1, _, hq⟩
  · exact hw _ List.mem_cons_self
  · -- getstatic
    cases c with
    | zero => exact Or.inl ⟨rfl, hw _ List.mem_cons_self⟩
    | succ n => exact Or.inr ⟨Nat.succ_ne_zero n, hw _ List.mem_cons_self⟩
  · -- invokevirtual
    rename_i idx
    simp only [Bool.and_eq_true, decide_eq_true_eq, List.isEmpty_iff] at hs
    obtain ⟨⟨⟨h0, h1⟩, h2⟩, h3⟩ := hs
    subst h1
    obtain ⟨e1, e2, e3, e4⟩ := am_eo_ok (heo a)
    have w1 := (hcd a h0).1 h2
    have w2 := hw _ List.mem_cons_self
    have w3 := hw _ (List.mem_cons_of_mem _ List.mem_cons_self)
    have w4 := hw _ (List.mem_cons_of_mem _ (List.mem_cons_of_mem _ List.mem_cons_self))
    have hc7 : c = 0 ∨ c = 7 := by
      split at h3
      · exact Or.inl rfl
      · exact Or.inr rfl
      · cases h3
    refine ⟨hc7, ⟨e1, e2, e3, e4, Or.inl ⟨w1, h2⟩⟩, w2, w3, fun hc => ?_, fun hc => ?_⟩
    · subst hc
      have h3 : (K.2.1[cn a]?).isSome = true := h3
      obtain ⟨q, hq⟩ := Option.isSome_iff_exists.mp h3
      have w4 : Cond.selects (match K.2.1[cn a]? with
        | some q => q.1
        | none => "") (pg a).1 (pg a).1 ∈ K.1 := w4
      rw [hq] at w4
      exact ⟨q.1, q.2.1, q.2.2, hq, w4⟩
    · subst hc
      exact w4
  · -- invokestatic
    rename_i idx
    obtain ⟨e1, e2, e3, e4⟩ := am_eo_ok (heo a)
    have hs2 : (match (generalizing := false) c with
      | 9 => true
      | 1 => cd a && decide (b = np a) && (pg a).2.2.2.2.1.isEmpty
      | 2 => cd a && decide (b = np a) && (pg a).2.2.2.2.1.isEmpty
      | 3 => cd a && decide (b = np a) && !(pg a).2.2.2.2.1.isEmpty
      | _ => false) = true := hs
    have h9 : c ≠ 9 := h9 idx rfl
    have hc : (c = 1 ∨ c = 2) ∧ (cd a && decide (b = np a) && (pg a).2.2.2.2.1.isEmpty) = true ∨ c = 3 ∧ (cd a && decide (b = np a) && !(pg a).2.2.2.2.1.isEmpty) = true := by
      split at hs2
      · exact absurd rfl h9
      · exact Or.inl ⟨Or.inl rfl, hs2⟩
      · exact Or.inl ⟨Or.inr rfl, hs2⟩
      · exact Or.inr ⟨rfl, hs2⟩
      · cases hs2
    rcases hc with ⟨hc, h3⟩ | ⟨rfl, h3⟩
    · simp only [Bool.and_eq_true, decide_eq_true_eq] at h3
      obtain ⟨⟨h0, h1⟩, h3⟩ := h3
      subst h1
      have h2 := List.isEmpty_iff.mp h3
      have w1 := (hcd a h0).1 h2
      rcases hc with rfl | rfl
      · exact ⟨⟨e1, e2, e3, e4, Or.inl ⟨w1, h2⟩⟩, hw _ List.mem_cons_self, hw _ (List.mem_cons_of_mem _ List.mem_cons_self), Or.inl ⟨rfl, h2, w1, hw _ (List.mem_cons_of_mem _ (List.mem_cons_of_mem _ List.mem_cons_self))⟩⟩
      · exact ⟨⟨e1, e2, e3, e4, Or.inl ⟨w1, h2⟩⟩, hw _ List.mem_cons_self, hw _ (List.mem_cons_of_mem _ List.mem_cons_self), Or.inr (Or.inl ⟨rfl, h2, w1, _, hw _ (List.mem_cons_of_mem _ (List.mem_cons_of_mem _ List.mem_cons_self))⟩)⟩
    · simp only [Bool.and_eq_true, decide_eq_true_eq] at h3
      obtain ⟨⟨h0, h1⟩, h3⟩ := h3
      subst h1
      have w1 := (hcd a h0).2 (fun z => by rw [z] at h3; cases h3)
      exact ⟨⟨e1, e2, e3, e4, Or.inr ⟨w1, rfl⟩⟩, hw _ List.mem_cons_self, hw _ (List.mem_cons_of_mem _ List.mem_cons_self), Or.inr (Or.inr ⟨rfl, w1, hw _ (List.mem_cons_of_mem _ (List.mem_cons_of_mem _ List.mem_cons_self))⟩)⟩
  · -- invokespecial
    rename_i idx
    refine ⟨fun hc => ?_, fun hc => ?_⟩
    · subst hc
      exact ⟨of_decide_eq_true hs, hw _ List.mem_cons_self, hw _ (List.mem_cons_of_mem _ List.mem_cons_self), hw _ (List.mem_cons_of_mem _ (List.mem_cons_of_mem _ List.mem_cons_self))⟩
    · have hc45 : c = 4 ∨ c = 5 := by
        have hs2 : (match (generalizing := false) c with
          | 6 => decide (b = 0)
          | 4 => cd a && decide (b = np a) && (pg a).2.2.2.2.1.isEmpty && (pg a).1.name == "<init>" && (pg a).2.2.2.1.isNone
          | 5 => cd a && decide (b = np a) && (pg a).2.2.2.2.1.isEmpty && (pg a).1.name == "<init>" && (pg a).2.2.2.1.isNone
          | _ => false) = true := hs
        split at hs2
        · exact absurd rfl hc
        · exact Or.inl rfl
        · exact Or.inr rfl
        · cases hs2
      rcases hc45 with rfl | rfl
      · have hs2 : (cd a && decide (b = np a) && (pg a).2.2.2.2.1.isEmpty && (pg a).1.name == "<init>" && (pg a).2.2.2.1.isNone) = true := hs
        simp only [Bool.and_eq_true, decide_eq_true_eq, List.isEmpty_iff, beq_iff_eq, Option.isNone_iff_eq_none] at hs2
        obtain ⟨⟨⟨⟨h0, h1⟩, h2⟩, h3⟩, h4⟩ := hs2
        subst h1
        obtain ⟨e1, e2, e3, e4⟩ := am_eo_ok (heo a)
        exact ⟨Or.inl rfl, ⟨e1, e2, e3, e4, Or.inl ⟨(hcd a h0).1 h2, h2⟩⟩, h3, h4, hw _ List.mem_cons_self, fun _ => hw _ (List.mem_cons_of_mem _ List.mem_cons_self), fun z => absurd z (by decide)⟩
      · have hs2 : (cd a && decide (b = np a) && (pg a).2.2.2.2.1.isEmpty && (pg a).1.name == "<init>" && (pg a).2.2.2.1.isNone) = true := hs
        simp only [Bool.and_eq_true, decide_eq_true_eq, List.isEmpty_iff, beq_iff_eq, Option.isNone_iff_eq_none] at hs2
        obtain ⟨⟨⟨⟨h0, h1⟩, h2⟩, h3⟩, h4⟩ := hs2
        subst h1
        obtain ⟨e1, e2, e3, e4⟩ := am_eo_ok (heo a)
        exact ⟨Or.inr rfl, ⟨e1, e2, e3, e4, Or.inl ⟨(hcd a h0).1 h2, h2⟩⟩, h3, h4, hw _ List.mem_cons_self, fun z => absurd z (by decide), fun _ => ⟨_, hw _ (List.mem_cons_of_mem _ List.mem_cons_self)⟩⟩
  · trivial
theorem am_vb_ok {E : am_En} {K : am_Ta} {cn : Nat → Nat} {pg : Nat → am_M} {np : Nat → Nat} {cd : Nat → Bool} {XL : List (String × Nat × Nat)} {me : am_M} {pc : Nat} {t : am_I} (heo : ∀ a, am_eo (pg a) (np a) = true) (hcd : ∀ a, cd a = true → ((pg a).2.2.2.2.1 = [] → Cond.code (pg a).1 (pg a).2.1 (pg a).2.2.1 (pg a).2.2.2.1 ∈ K.1) ∧ (¬ (pg a).2.2.2.2.1 = [] → Cond.codeWith (pg a).1 (pg a).2.1 (pg a).2.2.1 (pg a).2.2.2.1 (pg a).2.2.2.2.1 ∈ K.1))
    (hXL : ∀ q ∈ XL, (∀ w ∈ Bundle.ownAtoms q.1 q.2.1 (K.2.2.2.1 q.2.2) K.2.2.2.2, am_xw w) ∧ (∀ w ∈ Bundle.ownAtoms q.1 q.2.1 (K.2.2.2.1 q.2.2) K.2.2.2.2, am_carry w = true → w ∈ K.1))
    (hd : decode me.2.1 pc = .ok (t.1, t.2.1)) (hlen : am_len t.1 t.2.1 = true) (hw : ∀ w ∈ am_ws K.2.1 K.2.2.2.1 cn pg me.1.cls t, w ∈ K.1) (hs : am_sd E K.2.1 K.2.2.1 cn pg np cd XL me pc t = true) : am_V E K cn pg me pc t := by
  by_cases h9 : ∀ idx, t.1 = .invokestatic idx → t.2.2.2.2 ≠ 9
  · exact Or.inl (am_vb1_ok heo hcd hXL hd hlen hw hs h9)
  · simp only [Classical.not_forall, ne_eq, Classical.not_not] at h9
    obtain ⟨i, len, a, b, c⟩ := t
    obtain ⟨idx, rfl, rfl⟩ := h9
    have h3 : len = 3 := eq_of_beq hlen
    subst h3
    exact Or.inr ⟨idx, a, b, rfl, hd, hw _ List.mem_cons_self, hw _ (List.mem_cons_of_mem _ List.mem_cons_self), hw _ (List.mem_cons_of_mem _ (List.mem_cons_of_mem _ List.mem_cons_self)), hw _ (List.mem_cons_of_mem _ (List.mem_cons_of_mem _ (List.mem_cons_of_mem _ List.mem_cons_self)))⟩
