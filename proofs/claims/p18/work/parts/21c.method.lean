/-! ===== THE PURE MACHINE, part 25: a whole method, by reckoning ===== -/
/-- the words at places that grow: each number says how many are passed over -/
def am_pick (gs : List Nat) (tbl : List Cond) : List Cond := match gs with
  | [] => []
  | g :: gs => match tbl.drop g with
    | [] => []
    | w :: r => w :: am_pick gs r
theorem am_pick_mem {gs : List Nat} : ∀ {tbl : List Cond} {w : Cond}, w ∈ am_pick gs tbl → w ∈ tbl := by
  induction gs with
  | nil => intro tbl w h; cases h
  | cons g gs ih =>
    intro tbl w h
    unfold am_pick at h
    split at h
    · cases h
    · rename_i v r hr
      rcases List.mem_cons.mp h with rfl | h
      · exact List.mem_of_mem_drop (i := g) (by rw [hr]; exact List.mem_cons_self)
      · exact List.mem_of_mem_drop (i := g) (by rw [hr]; exact List.mem_cons_of_mem _ (ih h))
/-- along the places of a table, with a list of numbers for each entry -/
def am_seq (pt : Nat → Option am_I) (P : Nat → am_I → List Nat → Bool) (n : Nat) (pc : Nat) (L : List (List Nat)) : Bool := match n with
  | 0 => true
  | n + 1 => match pt pc with
    | none => am_seq pt P n (pc + 1) L
    | some t => match L with
      | [] => P pc t [] && am_seq pt P n (pc + 1) []
      | js :: L' => P pc t js && am_seq pt P n (pc + 1) L'
theorem am_seq_ok {pt : Nat → Option am_I} {P : Nat → am_I → List Nat → Bool} {n : Nat} : ∀ {pc : Nat} {L : List (List Nat)}, am_seq pt P n pc L = true → ∀ q, pc ≤ q → q < pc + n → ∀ t, pt q = some t → ∃ js, P q t js = true := by
  induction n with
  | zero => intro pc L _ q h1 h2; omega
  | succ n ih =>
    intro pc L h q h1 h2 t ht
    unfold am_seq at h
    by_cases hq : q = pc
    · subst hq
      rw [ht] at h
      cases L with
      | nil => exact ⟨[], (Bool.and_eq_true_iff.mp h).1⟩
      | cons js L' => exact ⟨js, (Bool.and_eq_true_iff.mp h).1⟩
    · have h3 : pc + 1 ≤ q := by omega
      have h4 : q < pc + 1 + n := by omega
      cases hp : pt pc with
      | none => rw [hp] at h; exact ih h q h3 h4 t ht
      | some u =>
        rw [hp] at h
        cases L with
        | nil => exact ih (Bool.and_eq_true_iff.mp h).2 q h3 h4 t ht
        | cons js L' => exact ih (Bool.and_eq_true_iff.mp h).2 q h3 h4 t ht
def am_nth (ws : List Cond) (js : List Nat) : List Cond := js.filterMap (fun j => ws[j]?)
theorem am_nth_mem {ws : List Cond} {js : List Nat} {w : Cond} (h : w ∈ am_nth ws js) : w ∈ ws := by
  obtain ⟨j, _, hj⟩ := List.mem_filterMap.mp h
  exact List.mem_of_getElem? hj
/-- what is asked at an entry -/
def am_ask (E : am_En) (cl : List vw_C) (refs : List (String × Nat × String × Nat)) (xn : Nat → String) (cn : Nat → Nat) (pg : Nat → am_M) (np : Nat → Nat) (cd : Nat → Bool) (XL : List (String × Nat × Nat)) (me : am_M) (ws : List Cond) (pc : Nat) (t : am_I) (js : List Nat) : Bool :=
  decide (decode me.2.1 pc = .ok (t.1, t.2.1)) && am_len t.1 t.2.1 && decide (am_ws cl xn cn pg me.1.cls t = am_nth ws js) && am_sd E cl refs cn pg np cd XL me pc t
/-- a row that catches -/
def am_rowAsk (E : am_En) (xn : Nat → String) (me : am_M) (ws : List Cond) : Bool := me.2.2.2.2.1.all (fun r => decide (r.2.2.2 ≠ 0) && decide (E.2.2.2.2.2.1 r.2.2.2 < 3) && decide (Cond.classLink me.1.cls r.2.2.2 (xn (E.2.2.2.2.2.1 r.2.2.2)) ∈ ws) && decide (Cond.castable (xn (E.2.2.2.2.2.1 r.2.2.2)) (xn (E.2.2.2.2.2.1 r.2.2.2)) ∈ ws))
/-- a method, by reckoning -/
def am_mchk (E : am_En) (tbl : List Cond) (cl : List vw_C) (refs : List (String × Nat × String × Nat)) (xn : Nat → String) (cn : Nat → Nat) (pg : Nat → am_M) (np : Nat → Nat) (cd : Nat → Bool) (XL : List (String × Nat × Nat)) (me : am_M) (size : Nat) (gs : List Nat) (L : List (List Nat)) : Bool :=
  (am_pick gs tbl).all am_carry && am_rowAsk E xn me (am_pick gs tbl) && am_seq me.2.2.2.2.2 (am_ask E cl refs xn cn pg np cd XL me (am_pick gs tbl)) size 0 L
/-- what is wanted of a method -/
def am_mok (E : am_En) (K : am_Ta) (cn : Nat → Nat) (pg : Nat → am_M) (me : am_M) : Prop := (∀ pc t, me.2.2.2.2.2 pc = some t → am_V E K cn pg me pc t) ∧
  (∀ r ∈ me.2.2.2.2.1, r.2.2.2 ≠ 0 ∧ E.2.2.2.2.2.1 r.2.2.2 < 3 ∧ Cond.classLink me.1.cls r.2.2.2 (K.2.2.2.1 (E.2.2.2.2.2.1 r.2.2.2)) ∈ K.1 ∧ Cond.castable (K.2.2.2.1 (E.2.2.2.2.2.1 r.2.2.2)) (K.2.2.2.1 (E.2.2.2.2.2.1 r.2.2.2)) ∈ K.1)
theorem am_mchk_ok {E : am_En} {tbl : List Cond} {K : am_Ta} {cn : Nat → Nat} {pg : Nat → am_M} {np : Nat → Nat} {cd : Nat → Bool} {XL : List (String × Nat × Nat)} {me : am_M} {size : Nat} {gs : List Nat} {L : List (List Nat)} (hK : K.1 = tbl.filter am_carry) (heo : ∀ a, am_eo (pg a) (np a) = true) (hcd : ∀ a, cd a = true → ((pg a).2.2.2.2.1 = [] → Cond.code (pg a).1 (pg a).2.1 (pg a).2.2.1 (pg a).2.2.2.1 ∈ K.1) ∧ (¬ (pg a).2.2.2.2.1 = [] → Cond.codeWith (pg a).1 (pg a).2.1 (pg a).2.2.1 (pg a).2.2.2.1 (pg a).2.2.2.2.1 ∈ K.1))
    (hXL : ∀ q ∈ XL, (∀ w ∈ Bundle.ownAtoms q.1 q.2.1 (K.2.2.2.1 q.2.2) K.2.2.2.2, am_xw w) ∧ (∀ w ∈ Bundle.ownAtoms q.1 q.2.1 (K.2.2.2.1 q.2.2) K.2.2.2.2, am_carry w = true → w ∈ K.1))
    (hsz : ∀ pc, size ≤ pc → me.2.2.2.2.2 pc = none) (h : am_mchk E tbl K.2.1 K.2.2.1 K.2.2.2.1 cn pg np cd XL me size gs L = true) : am_mok E K cn pg me := by
  unfold am_mchk at h
  rw [Bool.and_eq_true, Bool.and_eq_true] at h
  obtain ⟨⟨h1, h2⟩, h3⟩ := h
  have hin : ∀ w ∈ am_pick gs tbl, w ∈ K.1 := fun w hw => by
    rw [hK]
    exact List.mem_filter.mpr ⟨am_pick_mem hw, List.all_eq_true.mp h1 w hw⟩
  refine ⟨fun pc t ht => ?_, fun r hr => ?_⟩
  · have hpc : pc < size := by
      by_cases hz : pc < size
      · exact hz
      · rw [hsz pc (by omega)] at ht; cases ht
    obtain ⟨js, hjs⟩ := am_seq_ok h3 pc (Nat.zero_le _) (by omega) t ht
    unfold am_ask at hjs
    simp only [Bool.and_eq_true, decide_eq_true_eq] at hjs
    obtain ⟨⟨⟨a1, a2⟩, a3⟩, a4⟩ := hjs
    refine am_vb_ok heo hcd hXL a1 a2 (fun w hw => ?_) a4
    rw [a3] at hw
    exact hin w (am_nth_mem hw)
  · have := List.all_eq_true.mp h2 r hr
    simp only [Bool.and_eq_true, decide_eq_true_eq] at this
    obtain ⟨⟨⟨b1, b2⟩, b3⟩, b4⟩ := this
    exact ⟨b1, b2, hin _ b3, hin _ b4⟩
theorem am_bi {E : am_En} {K : am_Ta} {cn : Nat → Nat} {pg : Nat → am_M} {c : Bool} {a b : am_M} (h1 : am_mok E K cn pg a) (h2 : am_mok E K cn pg b) : am_mok E K cn pg (bif c then a else b) := by
  cases c
  · exact h2
  · exact h1
