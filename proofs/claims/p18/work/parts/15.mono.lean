/-! ===== THE PURE MACHINE, part 15: the counts of what is made only grow ===== -/
theorem am_lift_n {r : am_R} {h : List am_C} {nc ns : Nat} {x : am_St ⊕ am_Re} (hr : am_lift r h nc ns = some x) : ∃ pc lv st, r = some (pc, lv, st) ∧ x = .inl (pc, lv, st, h, nc, ns) := by
  unfold am_lift at hr
  split at hr
  · cases hr
    exact ⟨_, _, _, rfl, rfl⟩
  · cases hr
theorem am_liftH_n {r : am_RH} {nc ns : Nat} {x : am_St ⊕ am_Re} (hr : am_liftH r nc ns = some x) : ∃ pc lv st h, r = some (pc, lv, st, h) ∧ x = .inl (pc, lv, st, h, nc, ns) := by
  unfold am_liftH at hr
  split at hr
  · cases hr
    exact ⟨_, _, _, _, rfl, rfl⟩
  · cases hr
theorem am_liftN_n {r : am_RN} {nc ns : Nat} {x : am_St ⊕ am_Re} (hr : am_liftN r nc ns = some x) : ∃ pc lv st h n, r = some (pc, lv, st, h, n) ∧ x = .inl (pc, lv, st, h, nc + 1, ns + n) := by
  unfold am_liftN at hr
  split at hr
  · cases hr
    exact ⟨_, _, _, _, _, rfl, rfl⟩
  · cases hr
def am_cnt (x : am_St ⊕ am_Re) : Nat × Nat := match x with
  | .inl S => (S.2.2.2.2.1, S.2.2.2.2.2)
  | .inr r => (r.2.2.1, r.2.2.2)
abbrev am_up (nc ns : Nat) (x : am_St ⊕ am_Re) : Prop := nc ≤ (am_cnt x).1 ∧ ns ≤ (am_cnt x).2
theorem am_lift_up {r : am_R} {h : List am_C} {nc ns : Nat} {x : am_St ⊕ am_Re} (hr : am_lift r h nc ns = some x) : am_up nc ns x := by
  obtain ⟨_, _, _, -, rfl⟩ := am_lift_n hr
  exact ⟨Nat.le_refl _, Nat.le_refl _⟩
theorem am_liftH_up {r : am_RH} {nc ns : Nat} {x : am_St ⊕ am_Re} (hr : am_liftH r nc ns = some x) : am_up nc ns x := by
  obtain ⟨_, _, _, _, -, rfl⟩ := am_liftH_n hr
  exact ⟨Nat.le_refl _, Nat.le_refl _⟩
theorem am_liftN_up {r : am_RN} {nc ns : Nat} {x : am_St ⊕ am_Re} (hr : am_liftN r nc ns = some x) : am_up nc ns x := by
  obtain ⟨_, _, _, _, _, -, rfl⟩ := am_liftN_n hr
  exact ⟨Nat.le_add_right _ _, Nat.le_add_right _ _⟩
theorem am_back_up {E : am_En} {rows : List (Nat × Nat × Nat × Nat)} {pc : Nat} {lv : List (Nat × Value)} {rest : List Value} {nc ns : Nat} {r : Option am_Re} {x : am_St ⊕ am_Re} (hr : am_back E rows pc lv rest nc ns r = some x) : am_up nc ns x := by
  unfold am_back at hr
  split at hr
  · cases hr
    exact ⟨Nat.le_add_right _ _, Nat.le_add_right _ _⟩
  · split at hr
    · split at hr
      · split at hr
        · cases hr
          exact ⟨Nat.le_add_right _ _, Nat.le_add_right _ _⟩
        · cases hr
      · cases hr
    · cases hr
      exact ⟨Nat.le_add_right _ _, Nat.le_add_right _ _⟩
  · cases hr
theorem am_invoke_up {E : am_En} {call : am_Ca} {rows : List (Nat × Nat × Nat × Nat)} {cn : Nat → Nat} {a b c : Nat} {S : am_St} {x : am_St ⊕ am_Re} (hr : am_invoke E call rows cn a b c S = some x) : am_up S.2.2.2.2.1 S.2.2.2.2.2 x := by
  obtain ⟨pc, lv, st, h, nc, ns⟩ := S
  unfold am_invoke at hr
  dsimp only at hr
  split at hr
  · split at hr
    · split at hr
      · cases hr
        exact ⟨Nat.le_refl _, Nat.le_refl _⟩
      · cases hr
    · split at hr
      · split at hr
        · exact am_back_up hr
        · cases hr
      · cases hr
    all_goals first
      | (split at hr
         · exact am_back_up hr
         · cases hr)
      | cases hr
  · cases hr
theorem am_make_up {E : am_En} {dd : Nat} {rows : List (Nat × Nat × Nat × Nat)} {a b c : Nat} {S : am_St} {x : am_St ⊕ am_Re} (hr : am_make E dd rows a b c S = some x) : am_up S.2.2.2.2.1 S.2.2.2.2.2 x := by
  obtain ⟨pc, lv, st, h, nc, ns⟩ := S
  unfold am_make at hr
  dsimp only at hr
  split at hr
  · exact am_liftN_up hr
  · split at hr
    · cases hr
      exact ⟨Nat.le_add_right _ _, Nat.le_add_right _ _⟩
    · cases hr
theorem am_ireturn_up {ret : Option FieldType} {st : List Value} {h : List am_C} {nc ns : Nat} {x : am_St ⊕ am_Re} (hr : am_ireturn ret st h nc ns = some x) : am_up nc ns x := by
  unfold am_ireturn at hr
  split at hr
  · split at hr
    · cases hr
      exact ⟨Nat.le_refl _, Nat.le_refl _⟩
    all_goals first
      | (split at hr
         · cases hr
           exact ⟨Nat.le_refl _, Nat.le_refl _⟩
         · cases hr)
      | cases hr
  · cases hr
theorem am_lreturn_up {ret : Option FieldType} {st : List Value} {h : List am_C} {nc ns : Nat} {x : am_St ⊕ am_Re} (hr : am_lreturn ret st h nc ns = some x) : am_up nc ns x := by
  unfold am_lreturn at hr
  split at hr <;> cases hr
  exact ⟨Nat.le_refl _, Nat.le_refl _⟩
theorem am_areturn_up {ret : Option FieldType} {st : List Value} {h : List am_C} {nc ns : Nat} {x : am_St ⊕ am_Re} (hr : am_areturn ret st h nc ns = some x) : am_up nc ns x := by
  unfold am_areturn at hr
  split at hr <;> cases hr <;> exact ⟨Nat.le_refl _, Nat.le_refl _⟩
theorem am_return_up {ret : Option FieldType} {st : List Value} {h : List am_C} {nc ns : Nat} {x : am_St ⊕ am_Re} (hr : am_return ret st h nc ns = some x) : am_up nc ns x := by
  unfold am_return at hr
  split at hr <;> cases hr
  exact ⟨Nat.le_refl _, Nat.le_refl _⟩
theorem am_step_up {E : am_En} {cn : Nat → Nat} {dd : Nat} {call : am_Ca} {me : am_M} {t : am_I} {S : am_St} {x : am_St ⊕ am_Re} (hr : am_step E cn dd call me t S = some x) : am_up S.2.2.2.2.1 S.2.2.2.2.2 x := by
  obtain ⟨i, len, a, b, c⟩ := t
  unfold am_step at hr
  dsimp only at hr
  split at hr <;> first
    | exact am_liftH_up hr
    | exact am_liftN_up hr
    | exact am_make_up hr
    | exact am_lift_up hr
    | exact am_invoke_up hr
    | exact am_ireturn_up hr
    | exact am_lreturn_up hr
    | exact am_areturn_up hr
    | exact am_return_up hr
    | (split at hr
       · exact am_liftH_up hr
       · exact am_invoke_up hr)
theorem am_run_up {E : am_En} {cn : Nat → Nat} {dd : Nat} {call : am_Ca} {me : am_M} {r : am_Re} : ∀ (n : Nat) (S : am_St), am_run E cn dd call me n S = some r → S.2.2.2.2.1 ≤ r.2.2.1 ∧ S.2.2.2.2.2 ≤ r.2.2.2 := by
  intro n
  induction n with
  | zero => intro S h; cases h
  | succ n ih =>
    intro S h
    unfold am_run at h
    split at h
    · split at h
      · rename_i S' hs
        obtain ⟨h1, h2⟩ := am_step_up hs
        obtain ⟨h3, h4⟩ := ih S' h
        exact ⟨Nat.le_trans h1 h3, Nat.le_trans h2 h4⟩
      · rename_i r' hs
        cases h
        exact am_step_up hs
      · cases h
    · cases h
