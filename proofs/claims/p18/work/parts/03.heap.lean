/-! ===== THE PURE MACHINE, part 3: cells. An array is .inl (number of its element type, length and contents), an object .inr (number of its class, fields). ===== -/
abbrev am_C : Type := (Nat × vp_A) ⊕ (Nat × List Value)
def am_A (ad : Nat → Nat) (a : vp_A) : vp_A := match a with
  | (n, .inl f) => (n, .inl f)
  | (n, .inr (.inl f)) => (n, .inr (.inl f))
  | (n, .inr (.inr (.inl f))) => (n, .inr (.inr (.inl f)))
  | (n, .inr (.inr (.inr (.inl f)))) => (n, .inr (.inr (.inr (.inl f))))
  | (n, .inr (.inr (.inr (.inr f)))) => (n, .inr (.inr (.inr (.inr (fun j => (f j).map ad)))))
def am_E (cA : Nat → ClassId) (ad : Nat → Nat) (q : am_C) : va_E := match q with
  | .inl (t, a) => .inl (cA t, am_A ad a)
  | .inr (ci, fs) => .inr (ci, fs.map (am_v ad))
def am_W (cA : Nat → ClassId) (ad : Nat → Nat) (h : List am_C) : va_W := h.mapIdx (fun k q => (ad k, am_E cA ad q))
theorem am_W_at {cA : Nat → ClassId} {ad : Nat → Nat} {h : List am_C} {k : Nat} {q : am_C} (hk : h[k]? = some q) : (am_W cA ad h)[k]? = some (ad k, am_E cA ad q) := by
  unfold am_W
  rw [List.getElem?_mapIdx, hk]
  rfl
theorem am_W_set (cA : Nat → ClassId) (ad : Nat → Nat) (h : List am_C) (k : Nat) (q : am_C) : (am_W cA ad h).set k (ad k, am_E cA ad q) = am_W cA ad (h.set k q) := by
  unfold am_W
  rw [List.mapIdx_set]
theorem am_W_push (cA : Nat → ClassId) (ad : Nat → Nat) (h : List am_C) (q : am_C) : am_W cA ad h ++ [(ad h.length, am_E cA ad q)] = am_W cA ad (h ++ [q]) := by
  unfold am_W
  rw [List.mapIdx_concat]
/-- the element types -/
def am_ty (t : Nat) : FieldType := match t with
  | 0 => .int
  | 1 => .long
  | 2 => .byte
  | 3 => .boolean
  | 4 => .object "PacketWorks$Table"
  | _ => .object "PacketWorks$Operation"
def am_tys (cA : Nat → ClassId) : List (ClassId × FieldType) := [(cA 0, am_ty 0), (cA 1, am_ty 1), (cA 2, am_ty 2), (cA 3, am_ty 3), (cA 4, am_ty 4), (cA 5, am_ty 5)]
theorem am_tys_at (cA : Nat → ClassId) {t : Nat} (ht : t < 6) : (am_tys cA)[t]? = some (cA t, am_ty t) := by
  match t, ht with
  | 0, _ => rfl
  | 1, _ => rfl
  | 2, _ => rfl
  | 3, _ => rfl
  | 4, _ => rfl
  | 5, _ => rfl
/-- what an instruction on cells does: pc, locals, operands, cells -/
abbrev am_RH : Type := Option (Nat × List (Nat × Value) × List Value × List am_C)
abbrev am_FH : Type := Nat → List (Nat × Value) → List Value → List am_C → am_RH
def am_getf (ci k : Nat) : am_FH := fun pc lv st h => match st with
  | .ref q :: r => match h[q]? with
    | some (.inr (cj, fs)) => if cj = ci then match fs[k]? with
      | some v => some (pc + 3, lv, v :: r, h)
      | none => none
      else none
    | _ => none
  | _ => none
/-- what a field of a type takes -/
def am_fit (ty : FieldType) (v : Value) : Bool := match ty, v with
  | .int, .int _ => true
  | .long, .long _ => true
  | .boolean, .int x => decide (x = 0) || decide (x = 1)
  | .object _, .ref _ => true
  | .object _, .null => true
  | .array _, .ref _ => true
  | .array _, .null => true
  | _, _ => false
theorem am_fit_ok {ty : FieldType} {v : Value} (ad : Nat → Nat) (h : am_fit ty v = true) : narrow ty (am_v ad v) = am_v ad v ∧ fits ty (am_v ad v) = true := by
  unfold am_fit at h
  split at h <;> first | (cases h; done) | skip
  · exact ⟨rfl, rfl⟩
  · exact ⟨rfl, rfl⟩
  · rename_i x
    rw [Bool.or_eq_true, decide_eq_true_eq, decide_eq_true_eq] at h
    rcases h with rfl | rfl
    · exact ⟨(by decide : narrow .boolean (.int 0) = .int 0), (by decide : fits .boolean (.int 0) = true)⟩
    · exact ⟨(by decide : narrow .boolean (.int 1) = .int 1), (by decide : fits .boolean (.int 1) = true)⟩
  · exact ⟨rfl, rfl⟩
  · exact ⟨rfl, rfl⟩
  · exact ⟨rfl, rfl⟩
  · exact ⟨rfl, rfl⟩
def am_putf (ci k : Nat) (ty : FieldType) : am_FH := fun pc lv st h => match st with
  | v :: .ref q :: r => match h[q]? with
    | some (.inr (cj, fs)) => if cj = ci ∧ k < fs.length ∧ am_fit ty v = true then some (pc + 3, lv, r, h.set q (.inr (ci, fs.set k v))) else none
    | _ => none
  | _ => none
def am_iald (t : Nat) : am_FH := fun pc lv st h => match st with
  | .int i :: .ref q :: r => match h[q]? with
    | some (.inl (u, n, .inl f)) => if u = t ∧ ¬ (i < 0 ∨ n ≤ i.toNatClampNeg) then some (pc + 1, lv, .int (f i.toNatClampNeg) :: r, h) else none
    | _ => none
  | _ => none
/-- baload serves bytes and truth values -/
def am_bald : am_FH := fun pc lv st h => match st with
  | .int i :: .ref q :: r => match h[q]? with
    | some (.inl (u, n, .inl f)) => if (u = 2 ∨ u = 3) ∧ ¬ (i < 0 ∨ n ≤ i.toNatClampNeg) then some (pc + 1, lv, .int (f i.toNatClampNeg) :: r, h) else none
    | _ => none
  | _ => none
def am_lald : am_FH := fun pc lv st h => match st with
  | .int i :: .ref q :: r => match h[q]? with
    | some (.inl (u, n, .inr (.inl f))) => if u = 1 ∧ ¬ (i < 0 ∨ n ≤ i.toNatClampNeg) then some (pc + 1, lv, .long (f i.toNatClampNeg) :: r, h) else none
    | _ => none
  | _ => none
def am_aald : am_FH := fun pc lv st h => match st with
  | .int i :: .ref q :: r => match h[q]? with
    | some (.inl (u, n, .inr (.inr (.inr (.inr f))))) => if (u = 4 ∨ u = 5) ∧ ¬ (i < 0 ∨ n ≤ i.toNatClampNeg) then some (pc + 1, lv, va_rf (f i.toNatClampNeg) :: r, h) else none
    | _ => none
  | _ => none
def am_iast : am_FH := fun pc lv st h => match st with
  | .int x :: .int i :: .ref q :: r => match h[q]? with
    | some (.inl (u, n, .inl f)) => if u = 0 ∧ ¬ (i < 0 ∨ n ≤ i.toNatClampNeg) then some (pc + 1, lv, r, h.set q (.inl (u, n, .inl (upd f i.toNatClampNeg x)))) else none
    | _ => none
  | _ => none
def am_bast : am_FH := fun pc lv st h => match st with
  | .int x :: .int i :: .ref q :: r => match h[q]? with
    | some (.inl (u, n, .inl f)) => if (u = 2 ∨ u = 3) ∧ ¬ (i < 0 ∨ n ≤ i.toNatClampNeg) then some (pc + 1, lv, r, h.set q (.inl (u, n, .inl (upd f i.toNatClampNeg (vp_nar (am_ty u) x))))) else none
    | _ => none
  | _ => none
def am_last : am_FH := fun pc lv st h => match st with
  | .long x :: .int i :: .ref q :: r => match h[q]? with
    | some (.inl (u, n, .inr (.inl f))) => if u = 1 ∧ ¬ (i < 0 ∨ n ≤ i.toNatClampNeg) then some (pc + 1, lv, r, h.set q (.inl (u, n, .inr (.inl (vp_updL f i.toNatClampNeg x))))) else none
    | _ => none
  | _ => none
/-- an object is put into an array of its class: 4 holds tables, 5 operations -/
def am_aast (tb op : Nat) : am_FH := fun pc lv st h => match st with
  | .ref x :: .int i :: .ref q :: r => match h[q]?, h[x]? with
    | some (.inl (u, n, .inr (.inr (.inr (.inr f))))), some (.inr (cj, _)) => if ((u = 4 ∧ cj = tb) ∨ (u = 5 ∧ cj = op)) ∧ ¬ (i < 0 ∨ n ≤ i.toNatClampNeg) then some (pc + 1, lv, r, h.set q (.inl (u, n, .inr (.inr (.inr (.inr (va_up f i.toNatClampNeg (some x)))))))) else none
    | _, _ => none
  | .null :: .int i :: .ref q :: r => match h[q]? with
    | some (.inl (u, n, .inr (.inr (.inr (.inr f))))) => if (u = 4 ∨ u = 5) ∧ ¬ (i < 0 ∨ n ≤ i.toNatClampNeg) then some (pc + 1, lv, r, h.set q (.inl (u, n, .inr (.inr (.inr (.inr (va_up f i.toNatClampNeg none))))))) else none
    | _ => none
  | _ => none
def am_alen : am_FH := fun pc lv st h => match st with
  | .ref q :: r => match h[q]? with
    | some (.inl (u, a)) => if u < 6 then some (pc + 1, lv, .int (Int32.ofNat a.1) :: r, h) else none
    | _ => none
  | _ => none
def am_ad (ad : Nat → Nat) (k q : Nat) : Nat → Nat := fun j => if j = k then q else ad j
/-- cells that come: the numbers of cells and of slots that are made stand behind -/
abbrev am_RN : Type := Option (Nat × List (Nat × Value) × List Value × List am_C × Nat)
abbrev am_FN : Type := Nat → List (Nat × Value) → List Value → List am_C → am_RN
def am_zero (t n : Nat) : vp_A := match t with
  | 1 => (n, .inr (.inl (fun _ => 0)))
  | 4 => (n, .inr (.inr (.inr (.inr (fun _ => none)))))
  | 5 => (n, .inr (.inr (.inr (.inr (fun _ => none)))))
  | _ => (n, .inl (fun _ => 0))
def am_newa (t : Nat) : am_FN := fun pc lv st h => match st with
  | .int n :: r => if t < 4 ∧ ¬ n < 0 ∧ n.toNatClampNeg ≤ 1000000 ∧ h.length < 1000000 then some (pc + 2, lv, .ref h.length :: r, h ++ [.inl (t, am_zero t n.toNatClampNeg)], n.toNatClampNeg) else none
  | _ => none
def am_newq (t : Nat) : am_FN := fun pc lv st h => match st with
  | .int n :: r => if (t = 4 ∨ t = 5) ∧ ¬ n < 0 ∧ n.toNatClampNeg ≤ 1000000 ∧ h.length < 1000000 then some (pc + 3, lv, .ref h.length :: r, h ++ [.inl (t, am_zero t n.toNatClampNeg)], n.toNatClampNeg) else none
  | _ => none
def am_new (ci : Nat) (fs : List Value) : am_FN := fun pc lv st h => if h.length < 1000000 then some (pc + 3, lv, .ref h.length :: st, h ++ [.inr (ci, fs)], fs.length) else none
/-- references name cells that are there, or what stands outside -/
def am_okv (n : Nat) (v : Value) : Prop := match v with
  | .ref k => k < n ∨ 1000000 ≤ k
  | _ => True
def am_okC (n : Nat) (q : am_C) : Prop := match q with
  | .inl (_, _, .inr (.inr (.inr (.inr f)))) => ∀ j k, f j = some k → k < n ∨ 1000000 ≤ k
  | .inl _ => True
  | .inr (_, fs) => ∀ v ∈ fs, am_okv n v
def am_okL (n : Nat) (lv : List (Nat × Value)) : Prop := ∀ q ∈ lv, am_okv n q.2
def am_okS (n : Nat) (st : List Value) : Prop := ∀ v ∈ st, am_okv n v
def am_okH (n : Nat) (h : List am_C) : Prop := ∀ q ∈ h, am_okC n q
