/-! ===== THE PURE MACHINE, part 26: the same machine over another kind of heap, for reckoning ===== -/
/-- a heap: what stands at a number, putting there, making one more, how many there are -/
abbrev ag_O (T : Type) : Type := (T → Nat → Option am_C) × (T → Nat → am_C → T) × (T → am_C → T) × (T → Nat)
def ag_Li : ag_O (List am_C) := (fun h q => h[q]?, fun h q c => h.set q c, fun h c => h ++ [c], fun h => h.length)
abbrev ag_RH (T : Type) : Type := Option (Nat × List (Nat × Value) × List Value × T)
/-- an instruction that looks at one cell: which, and what it does there -/
abbrev ag_D : Type := List Value → Option (Nat × (am_C → Option (List Value × Option am_C)))
section AGD
variable {T : Type}
def ag_acc (O : ag_O T) (q : Nat) (g : am_C → Option (List Value × Option am_C)) (pc : Nat) (lv : List (Nat × Value)) (t : T) : ag_RH T := match O.1 t q with
  | some c => match g c with
    | some (st, none) => some (pc, lv, st, t)
    | some (st, some c') => some (pc, lv, st, O.2.1 t q c')
    | none => none
  | none => none
def ag_do (O : ag_O T) (d : ag_D) (len pc : Nat) (lv : List (Nat × Value)) (st : List Value) (t : T) : ag_RH T := match d st with
  | some (q, g) => ag_acc O q g (pc + len) lv t
  | none => none
end AGD
def ad_getf (ci k : Nat) : ag_D := fun st => match st with
  | .ref q :: r => some (q, fun c => match c with
    | .inr (cj, fs) => if cj = ci then match fs[k]? with
      | some v => some (v :: r, none)
      | none => none
      else none
    | _ => none)
  | _ => none
def ad_putf (ci k : Nat) (ty : FieldType) : ag_D := fun st => match st with
  | v :: .ref q :: r => some (q, fun c => match c with
    | .inr (cj, fs) => if cj = ci ∧ k < fs.length ∧ am_fit ty v = true then some (r, some (.inr (ci, fs.set k v))) else none
    | _ => none)
  | _ => none
def ad_iald (t : Nat) : ag_D := fun st => match st with
  | .int i :: .ref q :: r => some (q, fun c => match c with
    | .inl (u, n, .inl f) => if u = t ∧ ¬ (i < 0 ∨ n ≤ i.toNatClampNeg) then some (.int (f i.toNatClampNeg) :: r, none) else none
    | _ => none)
  | _ => none
def ad_bald : ag_D := fun st => match st with
  | .int i :: .ref q :: r => some (q, fun c => match c with
    | .inl (u, n, .inl f) => if (u = 2 ∨ u = 3) ∧ ¬ (i < 0 ∨ n ≤ i.toNatClampNeg) then some (.int (f i.toNatClampNeg) :: r, none) else none
    | _ => none)
  | _ => none
def ad_lald : ag_D := fun st => match st with
  | .int i :: .ref q :: r => some (q, fun c => match c with
    | .inl (u, n, .inr (.inl f)) => if u = 1 ∧ ¬ (i < 0 ∨ n ≤ i.toNatClampNeg) then some (.long (f i.toNatClampNeg) :: r, none) else none
    | _ => none)
  | _ => none
def ad_aald : ag_D := fun st => match st with
  | .int i :: .ref q :: r => some (q, fun c => match c with
    | .inl (u, n, .inr (.inr (.inr (.inr f)))) => if (u = 4 ∨ u = 5) ∧ ¬ (i < 0 ∨ n ≤ i.toNatClampNeg) then some (va_rf (f i.toNatClampNeg) :: r, none) else none
    | _ => none)
  | _ => none
def ad_iast : ag_D := fun st => match st with
  | .int x :: .int i :: .ref q :: r => some (q, fun c => match c with
    | .inl (u, n, .inl f) => if u = 0 ∧ ¬ (i < 0 ∨ n ≤ i.toNatClampNeg) then some (r, some (.inl (u, n, .inl (upd f i.toNatClampNeg x)))) else none
    | _ => none)
  | _ => none
def ad_bast : ag_D := fun st => match st with
  | .int x :: .int i :: .ref q :: r => some (q, fun c => match c with
    | .inl (u, n, .inl f) => if (u = 2 ∨ u = 3) ∧ ¬ (i < 0 ∨ n ≤ i.toNatClampNeg) then some (r, some (.inl (u, n, .inl (upd f i.toNatClampNeg (vp_nar (am_ty u) x))))) else none
    | _ => none)
  | _ => none
def ad_last : ag_D := fun st => match st with
  | .long x :: .int i :: .ref q :: r => some (q, fun c => match c with
    | .inl (u, n, .inr (.inl f)) => if u = 1 ∧ ¬ (i < 0 ∨ n ≤ i.toNatClampNeg) then some (r, some (.inl (u, n, .inr (.inl (vp_updL f i.toNatClampNeg x))))) else none
    | _ => none)
  | _ => none
def ad_alen : ag_D := fun st => match st with
  | .ref q :: r => some (q, fun c => match c with
    | .inl (u, a) => if u < 6 then some (.int (Int32.ofNat a.1) :: r, none) else none
    | _ => none)
  | _ => none
/-- aastore: the object's class is looked at first -/
def ad_aast (tb op cj : Nat) : ag_D := fun st => match st with
  | .ref x :: .int i :: .ref q :: r => some (q, fun c => match c with
    | .inl (u, n, .inr (.inr (.inr (.inr f)))) => if ((u = 4 ∧ cj = tb) ∨ (u = 5 ∧ cj = op)) ∧ ¬ (i < 0 ∨ n ≤ i.toNatClampNeg) then some (r, some (.inl (u, n, .inr (.inr (.inr (.inr (va_up f i.toNatClampNeg (some x)))))))) else none
    | _ => none)
  | _ => none
/-- aastore of null -/
def ad_astn : ag_D := fun st => match st with
  | .null :: .int i :: .ref q :: r => some (q, fun c => match c with
    | .inl (u, n, .inr (.inr (.inr (.inr f)))) => if (u = 4 ∨ u = 5) ∧ ¬ (i < 0 ∨ n ≤ i.toNatClampNeg) then some (r, some (.inl (u, n, .inr (.inr (.inr (.inr (va_up f i.toNatClampNeg none))))))) else none
    | _ => none)
  | _ => none
section AGE
variable {pc : Nat} {lv : List (Nat × Value)} {st : List Value} {h : List am_C}
theorem ad_getf_e {ci k : Nat} : am_getf ci k pc lv st h = ag_do ag_Li (ad_getf ci k) 3 pc lv st h := by
  rcases st with _ | ⟨v, r⟩
  · rfl
  · cases v <;> first | rfl | skip
    rename_i q
    unfold am_getf ag_do ad_getf ag_acc ag_Li
    dsimp only
    cases hq : h[q]? with
    | none => rfl
    | some c => 
      rcases c with a | ⟨cj, fs⟩
      · rfl
      · dsimp only
        split
        · cases fs[k]? <;> rfl
        · rfl
theorem ad_putf_e {ci k : Nat} {ty : FieldType} : am_putf ci k ty pc lv st h = ag_do ag_Li (ad_putf ci k ty) 3 pc lv st h := by
  rcases st with _ | ⟨v, _ | ⟨w, r⟩⟩
  · rfl
  · rfl
  · cases w <;> first | rfl | skip
    rename_i q
    unfold am_putf ag_do ad_putf ag_acc ag_Li
    dsimp only
    cases hq : h[q]? with
    | none => rfl
    | some c => 
      rcases c with a | ⟨cj, fs⟩
      · rfl
      · dsimp only
        split <;> rfl
theorem ad_iald_e {t : Nat} : am_iald t pc lv st h = ag_do ag_Li (ad_iald t) 1 pc lv st h := by
  rcases st with _ | ⟨v, _ | ⟨w, r⟩⟩
  · rfl
  · cases v <;> rfl
  · cases v <;> first | rfl | (cases w <;> first | rfl | skip)
    rename_i i q
    unfold am_iald ag_do ad_iald ag_acc ag_Li
    dsimp only
    cases hq : h[q]? with
    | none => rfl
    | some c => 
      rcases c with ⟨u, n, f | f | f | f | f⟩ | ⟨cj, fs⟩ <;> first | rfl | (dsimp only; split <;> rfl)
theorem ad_bald_e : am_bald pc lv st h = ag_do ag_Li (ad_bald) 1 pc lv st h := by
  rcases st with _ | ⟨v, _ | ⟨w, r⟩⟩
  · rfl
  · cases v <;> rfl
  · cases v <;> first | rfl | (cases w <;> first | rfl | skip)
    rename_i i q
    unfold am_bald ag_do ad_bald ag_acc ag_Li
    dsimp only
    cases hq : h[q]? with
    | none => rfl
    | some c => 
      rcases c with ⟨u, n, f | f | f | f | f⟩ | ⟨cj, fs⟩ <;> first | rfl | (dsimp only; split <;> rfl)
theorem ad_lald_e : am_lald pc lv st h = ag_do ag_Li (ad_lald) 1 pc lv st h := by
  rcases st with _ | ⟨v, _ | ⟨w, r⟩⟩
  · rfl
  · cases v <;> rfl
  · cases v <;> first | rfl | (cases w <;> first | rfl | skip)
    rename_i i q
    unfold am_lald ag_do ad_lald ag_acc ag_Li
    dsimp only
    cases hq : h[q]? with
    | none => rfl
    | some c => 
      rcases c with ⟨u, n, f | f | f | f | f⟩ | ⟨cj, fs⟩ <;> first | rfl | (dsimp only; split <;> rfl)
theorem ad_aald_e : am_aald pc lv st h = ag_do ag_Li (ad_aald) 1 pc lv st h := by
  rcases st with _ | ⟨v, _ | ⟨w, r⟩⟩
  · rfl
  · cases v <;> rfl
  · cases v <;> first | rfl | (cases w <;> first | rfl | skip)
    rename_i i q
    unfold am_aald ag_do ad_aald ag_acc ag_Li
    dsimp only
    cases hq : h[q]? with
    | none => rfl
    | some c => 
      rcases c with ⟨u, n, f | f | f | f | f⟩ | ⟨cj, fs⟩ <;> first | rfl | (dsimp only; split <;> rfl)
theorem ad_iast_e : am_iast pc lv st h = ag_do ag_Li (ad_iast) 1 pc lv st h := by
  rcases st with _ | ⟨v, _ | ⟨w, _ | ⟨z, r⟩⟩⟩
  · rfl
  · cases v <;> rfl
  · cases v <;> first | rfl | (cases w <;> rfl)
  · cases v <;> first | rfl | (cases w <;> first | rfl | (cases z <;> first | rfl | skip))
    rename_i x i q
    unfold am_iast ag_do ad_iast ag_acc ag_Li
    dsimp only
    cases hq : h[q]? with
    | none => rfl
    | some c => 
      rcases c with ⟨u, n, f | f | f | f | f⟩ | ⟨cj, fs⟩ <;> first | rfl | (dsimp only; split <;> rfl)
theorem ad_bast_e : am_bast pc lv st h = ag_do ag_Li (ad_bast) 1 pc lv st h := by
  rcases st with _ | ⟨v, _ | ⟨w, _ | ⟨z, r⟩⟩⟩
  · rfl
  · cases v <;> rfl
  · cases v <;> first | rfl | (cases w <;> rfl)
  · cases v <;> first | rfl | (cases w <;> first | rfl | (cases z <;> first | rfl | skip))
    rename_i x i q
    unfold am_bast ag_do ad_bast ag_acc ag_Li
    dsimp only
    cases hq : h[q]? with
    | none => rfl
    | some c => 
      rcases c with ⟨u, n, f | f | f | f | f⟩ | ⟨cj, fs⟩ <;> first | rfl | (dsimp only; split <;> rfl)
theorem ad_last_e : am_last pc lv st h = ag_do ag_Li (ad_last) 1 pc lv st h := by
  rcases st with _ | ⟨v, _ | ⟨w, _ | ⟨z, r⟩⟩⟩
  · rfl
  · cases v <;> rfl
  · cases v <;> first | rfl | (cases w <;> rfl)
  · cases v <;> first | rfl | (cases w <;> first | rfl | (cases z <;> first | rfl | skip))
    rename_i x i q
    unfold am_last ag_do ad_last ag_acc ag_Li
    dsimp only
    cases hq : h[q]? with
    | none => rfl
    | some c => 
      rcases c with ⟨u, n, f | f | f | f | f⟩ | ⟨cj, fs⟩ <;> first | rfl | (dsimp only; split <;> rfl)
theorem ad_astn_e {tb op : Nat} : am_aast tb op pc lv (.null :: st) h = ag_do ag_Li ad_astn 1 pc lv (.null :: st) h := by
  rcases st with _ | ⟨w, _ | ⟨z, r⟩⟩
  · rfl
  · cases w <;> rfl
  · cases w <;> first | rfl | (cases z <;> first | rfl | skip)
    rename_i i q
    unfold am_aast ag_do ad_astn ag_acc ag_Li
    dsimp only
    cases hq : h[q]? with
    | none => rfl
    | some c => 
      rcases c with ⟨u, n, f | f | f | f | f⟩ | ⟨cj, fs⟩ <;> first | rfl | (dsimp only; split <;> rfl)
theorem ad_alen_e : am_alen pc lv st h = ag_do ag_Li (ad_alen) 1 pc lv st h := by
  rcases st with _ | ⟨v, r⟩
  · rfl
  · cases v <;> first | rfl | skip
    rename_i q
    unfold am_alen ag_do ad_alen ag_acc ag_Li
    dsimp only
    cases hq : h[q]? with
    | none => rfl
    | some c => 
      rcases c with ⟨u, a⟩ | ⟨cj, fs⟩
      · dsimp only
        split <;> rfl
      · rfl
end AGE
/-- when a heap of another kind stands for a list of cells -/
def ag_R {T : Type} (O : ag_O T) (lim : Nat) (R : T → List am_C → Prop) : Prop :=
  (∀ t h q c, R t h → O.1 t q = some c → h[q]? = some c) ∧ (∀ t h q c c', R t h → O.1 t q = some c → R (O.2.1 t q c') (h.set q c')) ∧
  (∀ t h c, R t h → O.2.2.2 t < lim → R (O.2.2.1 t c) (h ++ [c])) ∧ (∀ t h, R t h → O.2.2.2 t = h.length) ∧ lim ≤ 1000000
section AGA
variable {T : Type} {O : ag_O T} {lim : Nat} {R : T → List am_C → Prop} {t t' : T} {h : List am_C} {pc pc' : Nat} {lv lv' : List (Nat × Value)} {st st' : List Value}
theorem ag_acc_ok {q : Nat} {g : am_C → Option (List Value × Option am_C)} (hO : ag_R O lim R) (hR : R t h) (he : ag_acc O q g pc lv t = some (pc', lv', st', t')) : ∃ h', ag_acc ag_Li q g pc lv h = some (pc', lv', st', h') ∧ R t' h' := by
  unfold ag_acc at he
  split at he
  · rename_i c hc
    have h1 : ag_Li.1 h q = some c := hO.1 t h q c hR hc
    split at he
    · rename_i st1 hg
      cases he
      refine ⟨h, ?_, hR⟩
      unfold ag_acc
      rw [h1]
      dsimp only
      rw [hg]
    · rename_i st1 c' hg
      cases he
      refine ⟨h.set q c', ?_, hO.2.1 t h q c c' hR hc⟩
      unfold ag_acc
      rw [h1]
      dsimp only
      rw [hg]
      rfl
    · cases he
  · cases he
theorem ag_do_ok {d : ag_D} {len : Nat} (hO : ag_R O lim R) (hR : R t h) (he : ag_do O d len pc lv st t = some (pc', lv', st', t')) : ∃ h', ag_do ag_Li d len pc lv st h = some (pc', lv', st', h') ∧ R t' h' := by
  unfold ag_do at he
  split at he
  · rename_i q g hd
    obtain ⟨h', e, r⟩ := ag_acc_ok hO hR he
    refine ⟨h', ?_, r⟩
    unfold ag_do
    rw [hd]
    exact e
  · cases he
end AGA
/-- states, ends and calls over such a heap; X: what is known of the script -/
abbrev ag_St (T : Type) : Type := Nat × List (Nat × Value) × List Value × T × Nat × Nat
abbrev ag_Re (T : Type) : Type := (Option Value ⊕ Nat) × T × Nat × Nat
abbrev ag_SR (T : Type) : Type := Option (ag_St T ⊕ ag_Re T)
abbrev ag_Ca (T : Type) : Type := Nat → List Value → T → Option (ag_Re T)
abbrev ag_X : Type := Option Nat × (Nat → Option Int32)
def ag_Xok (X : ag_X) (e : Nat × (Nat → Int32)) : Prop := (∀ L, X.1 = some L → e.1 = L) ∧ ∀ j v, X.2 j = some v → e.2 j = v
section AGM
variable {T : Type}
def ag_out (r : am_RH) (t : T) : ag_RH T := match r with
  | some (pc, lv, st, _) => some (pc, lv, st, t)
  | none => none
def ag_lift (r : am_R) (t : T) (nc ns : Nat) : ag_SR T := match r with
  | some (pc, lv, st) => some (.inl (pc, lv, st, t, nc, ns))
  | none => none
def ag_liftH (r : ag_RH T) (nc ns : Nat) : ag_SR T := match r with
  | some (pc, lv, st, t) => some (.inl (pc, lv, st, t, nc, ns))
  | none => none
def ag_iaload (O : ag_O T) (X : ag_X) (pc : Nat) (lv : List (Nat × Value)) (st : List Value) (t : T) : ag_RH T := match st with
  | .int i :: .ref q :: r => if q < 1000000 then ag_do O (ad_iald 0) 1 pc lv (.int i :: .ref q :: r) t else match X.1, X.2 i.toNatClampNeg with
    | some L, some v => if q = 1000000 ∧ ¬ (i < 0 ∨ L ≤ i.toNatClampNeg) then some (pc + 1, lv, .int v :: r, t) else none
    | _, _ => none
  | _ => none
def ag_baload (O : ag_O T) (E : am_En) (pc : Nat) (lv : List (Nat × Value)) (st : List Value) (t : T) : ag_RH T := match st with
  | .int i :: .ref q :: r => if q < 1000000 then ag_do O ad_bald 1 pc lv (.int i :: .ref q :: r) t else ag_out (am_xbald E.2.1.1 E.2.1.2 pc lv (.int i :: .ref q :: r) []) t
  | _ => none
def ag_alength (O : ag_O T) (X : ag_X) (E : am_En) (pc : Nat) (lv : List (Nat × Value)) (st : List Value) (t : T) : ag_RH T := match st with
  | .ref q :: r => if q < 1000000 then ag_do O ad_alen 1 pc lv (.ref q :: r) t else if q = 1000000 then (match X.1 with
    | some L => some (pc + 1, lv, .int (Int32.ofNat L) :: r, t)
    | none => none) else ag_out (am_xalen 0 E.2.1.1 pc lv (.ref q :: r) []) t
  | _ => none
def ag_getfield (O : ag_O T) (E : am_En) (a b c : Nat) (pc : Nat) (lv : List (Nat × Value)) (st : List Value) (t : T) : ag_RH T := match c with
  | 0 => ag_do O (ad_getf a b) 3 pc lv st t
  | _ => ag_out (am_xgetf E.2.1.1 a pc lv st []) t
def ag_aast (O : ag_O T) (tb op : Nat) (pc : Nat) (lv : List (Nat × Value)) (st : List Value) (t : T) : ag_RH T := match st with
  | .ref x :: r => match O.1 t x with
    | some (.inr (cj, _)) => ag_do O (ad_aast tb op cj) 1 pc lv (.ref x :: r) t
    | _ => none
  | .null :: r => ag_do O ad_astn 1 pc lv (.null :: r) t
  | _ => none
/-- cells that come -/
def ag_mk (O : ag_O T) (lim : Nat) (c : am_C) (n pc : Nat) (lv : List (Nat × Value)) (st : List Value) (t : T) (nc ns : Nat) : ag_SR T := if O.2.2.2 t < lim then some (.inl (pc, lv, .ref (O.2.2.2 t) :: st, O.2.2.1 t c, nc + 1, ns + n)) else none
def ag_newa (O : ag_O T) (lim ty : Nat) (S : ag_St T) : ag_SR T := match S with
  | (pc, lv, .int n :: r, t, nc, ns) => if ty < 4 ∧ ¬ n < 0 ∧ n.toNatClampNeg ≤ 1000000 then ag_mk O lim (.inl (ty, am_zero ty n.toNatClampNeg)) n.toNatClampNeg (pc + 2) lv r t nc ns else none
  | _ => none
def ag_newq (O : ag_O T) (lim ty : Nat) (S : ag_St T) : ag_SR T := match S with
  | (pc, lv, .int n :: r, t, nc, ns) => if (ty = 4 ∨ ty = 5) ∧ ¬ n < 0 ∧ n.toNatClampNeg ≤ 1000000 then ag_mk O lim (.inl (ty, am_zero ty n.toNatClampNeg)) n.toNatClampNeg (pc + 3) lv r t nc ns else none
  | _ => none
def ag_back (O : ag_O T) (lim : Nat) (E : am_En) (rows : List (Nat × Nat × Nat × Nat)) (pc : Nat) (lv : List (Nat × Value)) (rest : List Value) (nc ns : Nat) (r : Option (ag_Re T)) : ag_SR T := match r with
  | some (.inl v, t, k, n) => some (.inl (pc + 3, lv, v.toList ++ rest, t, nc + k, ns + n))
  | some (.inr x, t, k, n) => if am_covered rows pc = true then match am_find E rows pc x with
      | some a => if O.2.2.2 t < lim then some (.inl (a, lv, [.ref (O.2.2.2 t)], O.2.2.1 t (.inr (E.2.2.2.2.1 x, [])), nc + k, ns + n)) else none
      | none => none
    else some (.inr (.inr x, t, nc + k, ns + n))
  | none => none
def ag_invoke (O : ag_O T) (lim : Nat) (E : am_En) (call : ag_Ca T) (rows : List (Nat × Nat × Nat × Nat)) (cn : Nat → Nat) (a b c : Nat) (S : ag_St T) : ag_SR T := match S with
  | (pc, lv, st, t, nc, ns) => if b ≤ st.length then match c, st.drop b with
      | 6, .ref _ :: rest => if am_cat rest ≤ 8 then some (.inl (pc + 3, lv, rest, t, nc, ns)) else none
      | 0, .ref q :: rest => match O.1 t q with
        | some (.inr (cj, _)) => if cj = cn a ∧ am_cat rest ≤ 8 then ag_back O lim E rows pc lv rest nc ns (call a (.ref q :: (st.take b).reverse) t) else none
        | _ => none
      | 7, .ref q :: rest => if (q = am_kT ((q - 1000001) / 2) ∧ (q - 1000001) / 2 < E.2.1.1.length) ∧ am_cat rest ≤ 8 then ag_back O lim E rows pc lv rest nc ns (call a (.ref q :: (st.take b).reverse) t) else none
      | 4, .ref q :: rest => if am_cat rest ≤ 8 then ag_back O lim E rows pc lv rest nc ns (call a (.ref q :: (st.take b).reverse) t) else none
      | 5, .ref q :: rest => if am_cat rest ≤ 8 then ag_back O lim E rows pc lv rest nc ns (call a (.ref q :: (st.take b).reverse) t) else none
      | 1, rest => if am_cat rest ≤ 8 then ag_back O lim E rows pc lv rest nc ns (call a (st.take b).reverse t) else none
      | 2, rest => if am_cat rest ≤ 8 then ag_back O lim E rows pc lv rest nc ns (call a (st.take b).reverse t) else none
      | 3, rest => if am_cat rest ≤ 8 then ag_back O lim E rows pc lv rest nc ns (call a (st.take b).reverse t) else none
      | _, _ => none
    else none
/-- the ends: as the list's, with the heap behind -/
def ag_end (r : am_SR) (t : T) : ag_SR T := match r with
  | some (.inr (v, _, nc, ns)) => some (.inr (v, t, nc, ns))
  | _ => none
def ag_make (O : ag_O T) (lim : Nat) (E : am_En) (dd : Nat) (rows : List (Nat × Nat × Nat × Nat)) (a b c : Nat) (S : ag_St T) : ag_SR T := match S with
  | (pc, lv, st, t, nc, ns) => match c with
    | 0 => ag_mk O lim (.inr (a, E.2.2.2.1 a)) (E.2.2.2.1 a).length (pc + 3) lv st t nc ns
    | _ => if 6 ≤ dd ∧ am_cat st ≤ 8 ∧ am_covered rows (pc + 4 + b + 3) = false then some (.inr (.inr a, t, nc + 1, ns + 6)) else none
def ag_copy (O : ag_O T) (pc : Nat) (lv : List (Nat × Value)) (st : List Value) (t : T) : ag_RH T := match st with
  | .int n :: .int dp :: .ref q :: .int sp :: .ref q0 :: r => match O.1 t q0, O.1 t q with
    | some c0, some c => match am_cpc n dp sp r c0 c with
      | some c' => some (pc + 3, lv, r, O.2.1 t q c')
      | none => none
    | _, _ => none
  | _ => none
def ag_step (O : ag_O T) (lim : Nat) (X : ag_X) (E : am_En) (cn : Nat → Nat) (dd : Nat) (call : ag_Ca T) (me : am_M) (i9 : am_I) (S : ag_St T) : ag_SR T := match i9 with
  | (i, len, a, b, c) => match S with
    | (pc, lv, st, t, nc, ns) => match i with
      | .getfield _ => ag_liftH (ag_getfield O E a b c pc lv st t) nc ns
      | .putfield _ => ag_liftH (ag_do O (ad_putf a b (E.2.2.1 a b)) 3 pc lv st t) nc ns
      | .iaload => ag_liftH (ag_iaload O X pc lv st t) nc ns
      | .baload => ag_liftH (ag_baload O E pc lv st t) nc ns
      | .laload => ag_liftH (ag_do O ad_lald 1 pc lv st t) nc ns
      | .aaload => ag_liftH (ag_do O ad_aald 1 pc lv st t) nc ns
      | .iastore => ag_liftH (ag_do O ad_iast 1 pc lv st t) nc ns
      | .bastore => ag_liftH (ag_do O ad_bast 1 pc lv st t) nc ns
      | .lastore => ag_liftH (ag_do O ad_last 1 pc lv st t) nc ns
      | .aastore => ag_liftH (ag_aast O 10 4 pc lv st t) nc ns
      | .arraylength => ag_liftH (ag_alength O X E pc lv st t) nc ns
      | .newarray _ => ag_newa O lim a (pc, lv, st, t, nc, ns)
      | .anewarray _ => ag_newq O lim a (pc, lv, st, t, nc, ns)
      | .new _ => ag_make O lim E dd me.2.2.2.2.1 a b c (pc, lv, st, t, nc, ns)
      | .ldc _ => ag_lift (am_ldc 2 a c me.2.2.1 pc lv st) t nc ns
      | .ldc_w _ => ag_lift (am_ldc 3 a c me.2.2.1 pc lv st) t nc ns
      | .ldc2_w _ => ag_lift (am_push (.long (Int64.ofNat a)) 3 me.2.2.1 pc lv st) t nc ns
      | .getstatic _ => ag_lift (am_push (am_gs E.2.2.2.2.2.2 c) 3 me.2.2.1 pc lv st) t nc ns
      | .invokevirtual _ => ag_invoke O lim E call me.2.2.2.2.1 cn a b c (pc, lv, st, t, nc, ns)
      | .invokespecial _ => ag_invoke O lim E call me.2.2.2.2.1 cn a b c (pc, lv, st, t, nc, ns)
      | .invokestatic _ => (match c with
        | 9 => ag_liftH (ag_copy O pc lv st t) nc ns
        | _ => ag_invoke O lim E call me.2.2.2.2.1 cn a b c (pc, lv, st, t, nc, ns))
      | .ireturn => ag_end (am_ireturn me.2.2.2.1 st [] nc ns) t
      | .lreturn => ag_end (am_lreturn me.2.2.2.1 st [] nc ns) t
      | .areturn => ag_end (am_areturn me.2.2.2.1 st [] nc ns) t
      | .return_ => ag_end (am_return me.2.2.2.1 st [] nc ns) t
      | _ => ag_lift (am_pure i len me.2.2.1 pc lv st) t nc ns
def ag_run (O : ag_O T) (lim : Nat) (X : ag_X) (E : am_En) (cn : Nat → Nat) (dd : Nat) (call : ag_Ca T) (me : am_M) (n : Nat) (S : ag_St T) : Option (ag_Re T) := match n with
  | 0 => none
  | n + 1 => match me.2.2.2.2.2 S.1 with
    | some i => match ag_step O lim X E cn dd call me i S with
      | some (.inl S') => ag_run O lim X E cn dd call me n S'
      | some (.inr r) => some r
      | none => none
    | none => none
def ag_call (O : ag_O T) (lim : Nat) (X : ag_X) (E : am_En) (cn : Nat → Nat) (pg : Nat → am_M) (fuel : Nat) (d : Nat) : ag_Ca T := match d with
  | 0 => fun _ _ _ => none
  | d + 1 => fun mi av t => if am_cat av ≤ (pg mi).2.2.1 then ag_run O lim X E cn (d + 1) (ag_call O lim X E cn pg fuel d) (pg mi) fuel (0, lv_args 0 av, [], t, 0, 0) else none
/-- some steps of a method that go on -/
def ag_go (O : ag_O T) (lim : Nat) (X : ag_X) (E : am_En) (cn : Nat → Nat) (dd : Nat) (call : ag_Ca T) (me : am_M) (n : Nat) (S : ag_St T) : Option (ag_St T) := match n with
  | 0 => some S
  | n + 1 => match me.2.2.2.2.2 S.1 with
    | some i => match ag_step O lim X E cn dd call me i S with
      | some (.inl S') => ag_go O lim X E cn dd call me n S'
      | _ => none
    | none => none
end AGM
