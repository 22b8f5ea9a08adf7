/-! ===== THE PURE MACHINE: more fuel does no harm; behind an array's end stands nothing ===== -/
theorem am_back_m {E : am_En} {rows : List (Nat × Nat × Nat × Nat)} {pc : Nat} {lv : List (Nat × Value)} {rest : List Value} {nc ns : Nat} {o o' : Option am_Re} {x : am_St ⊕ am_Re} (h : ∀ r, o = some r → o' = some r) (hr : am_back E rows pc lv rest nc ns o = some x) : am_back E rows pc lv rest nc ns o' = some x := by
  cases o with
  | none => cases hr
  | some r =>
    rw [h r rfl]
    exact hr
theorem am_invoke_m {E : am_En} {call call' : am_Ca} {rows : List (Nat × Nat × Nat × Nat)} {cn : Nat → Nat} {a b c : Nat} {S : am_St} {x : am_St ⊕ am_Re} (hc : ∀ mi av h r, call mi av h = some r → call' mi av h = some r) (hr : am_invoke E call rows cn a b c S = some x) : am_invoke E call' rows cn a b c S = some x := by
  obtain ⟨pc, lv, st, h, nc, ns⟩ := S
  unfold am_invoke at hr ⊢
  dsimp only at hr ⊢
  split at hr
  · rename_i hb
    rw [if_pos hb]
    generalize st.drop b = dr at hr ⊢
    generalize (st.take b).reverse = av at hr ⊢
    split at hr
    · exact hr
    · split at hr
      · split at hr
        · rename_i hz
          rw [if_pos hz]
          exact am_back_m (fun r h => hc _ _ _ _ h) hr
        · cases hr
      · cases hr
    all_goals first
      | (split at hr
         · rename_i hz
           (try dsimp only)
           rw [if_pos hz]
           exact am_back_m (fun r h => hc _ _ _ _ h) hr
         · cases hr)
      | cases hr
  · cases hr
set_option maxHeartbeats 4000000 in
theorem am_step_m {E : am_En} {cn : Nat → Nat} {dd : Nat} {call call' : am_Ca} {me : am_M} {t : am_I} {S : am_St} {x : am_St ⊕ am_Re} (hc : ∀ mi av h r, call mi av h = some r → call' mi av h = some r) (hr : am_step E cn dd call me t S = some x) : am_step E cn dd call' me t S = some x := by
  obtain ⟨i, len, a, b, c⟩ := t
  cases i
  case invokevirtual idx => exact am_invoke_m (S := S) hc hr
  case invokespecial idx => exact am_invoke_m (S := S) hc hr
  case invokestatic idx =>
    unfold am_step at hr ⊢
    dsimp only at hr ⊢
    split at hr
    · exact hr
    · exact am_invoke_m (S := S) hc hr
  all_goals exact hr
theorem am_run_m {E : am_En} {cn : Nat → Nat} {dd : Nat} {call call' : am_Ca} {me : am_M} (hc : ∀ mi av h r, call mi av h = some r → call' mi av h = some r) : ∀ (n n' : Nat) (S : am_St) (r : am_Re), n ≤ n' → am_run E cn dd call me n S = some r → am_run E cn dd call' me n' S = some r := by
  intro n
  induction n with
  | zero => intro n' S r _ hr; cases hr
  | succ n ih =>
    intro n' S r hn hr
    obtain ⟨n', rfl⟩ : ∃ k, n' = k + 1 := ⟨n' - 1, by omega⟩
    unfold am_run at hr ⊢
    cases ht : me.2.2.2.2.2 S.1 with
    | none => rw [ht] at hr; cases hr
    | some t =>
      rw [ht] at hr
      dsimp only at hr ⊢
      cases hs : am_step E cn dd call me t S with
      | none => rw [hs] at hr; cases hr
      | some y =>
        rw [hs] at hr
        rw [am_step_m hc hs]
        cases y with
        | inl S' => exact ih n' S' r (by omega) hr
        | inr q => exact hr
theorem am_call_m {E : am_En} {cn : Nat → Nat} {pg : Nat → am_M} {f f' : Nat} (hf : f ≤ f') : ∀ (d mi : Nat) (av : List Value) (h : List am_C) (r : am_Re), am_call E cn pg f d mi av h = some r → am_call E cn pg f' d mi av h = some r := by
  intro d
  induction d with
  | zero => intro mi av h r hr; cases hr
  | succ d ih =>
    intro mi av h r hr
    unfold am_call at hr ⊢
    split at hr
    · rename_i hz
      rw [if_pos hz]
      exact am_run_m ih f f' _ r hf hr
    · cases hr
/-! behind an array's end -/
def zC (c : am_C) : Prop := match c with
  | .inl (_, n, .inl f) => ∀ j, n ≤ j → f j = 0
  | .inl (_, n, .inr (.inl f)) => ∀ j, n ≤ j → f j = 0
  | .inl (_, n, .inr (.inr (.inr (.inr f)))) => ∀ j, n ≤ j → f j = none
  | _ => True
def zH (h : List am_C) : Prop := ∀ c ∈ h, zC c
theorem z_get {h : List am_C} {q : Nat} {c : am_C} (hz : zH h) (hq : h[q]? = some c) : zC c := hz c (List.mem_of_getElem? hq)
theorem z_set {h : List am_C} {q : Nat} {c : am_C} (hz : zH h) (hc : zC c) : zH (h.set q c) := fun x hx => by
  rcases List.mem_or_eq_of_mem_set hx with h1 | rfl
  · exact hz x h1
  · exact hc
theorem z_app {h : List am_C} {c : am_C} (hz : zH h) (hc : zC c) : zH (h ++ [c]) := fun x hx => by
  rcases List.mem_append.mp hx with h1 | h1
  · exact hz x h1
  · rw [List.mem_singleton.mp h1]
    exact hc
theorem z_zero (t n : Nat) : zC (.inl (t, am_zero t n)) := by
  unfold am_zero
  split <;> (intro j hj; rfl)
def zF (f : am_FH) : Prop := ∀ pc lv st h pc' lv' st' h', zH h → f pc lv st h = some (pc', lv', st', h') → zH h'
theorem zF_r {f : am_FH} (hf : ∀ pc lv st h pc' lv' st' h', f pc lv st h = some (pc', lv', st', h') → h = h') : zF f := fun pc lv st h pc' lv' st' h' hz hr => hf _ _ _ _ _ _ _ _ hr ▸ hz
theorem z_getf {a b : Nat} : zF (am_getf a b) := zF_r (fun pc lv st h pc' lv' st' h' hr => by
  unfold am_getf at hr
  repeat' split at hr
  all_goals first | (cases hr; done) | (cases hr; rfl))
theorem z_xgetf {xs : List Nat} {a : Nat} : zF (am_xgetf xs a) := zF_r (fun pc lv st h pc' lv' st' h' hr => by
  unfold am_xgetf at hr
  repeat' split at hr
  all_goals first | (cases hr; done) | (cases hr; rfl))
theorem z_getfield {E : am_En} {a b c : Nat} : zF (am_getfield E a b c) := by
  unfold am_getfield
  split
  · exact z_getf
  · exact z_xgetf
theorem z_putf {a b : Nat} {ty : FieldType} : zF (am_putf a b ty) := fun pc lv st h pc' lv' st' h' hz hr => by
  unfold am_putf at hr
  repeat' split at hr
  all_goals first | (cases hr; done) | (cases hr; exact z_set hz trivial)
theorem z_iaload {E : am_En} : zF (am_iaload E) := zF_r (fun pc lv st h pc' lv' st' h' hr => by
  unfold am_iaload am_iald am_xiald at hr
  repeat' split at hr
  all_goals first | (cases hr; done) | (cases hr; rfl))
theorem z_baload {E : am_En} : zF (am_baload E) := zF_r (fun pc lv st h pc' lv' st' h' hr => by
  unfold am_baload am_bald am_xbald at hr
  repeat' split at hr
  all_goals first | (cases hr; done) | (cases hr; rfl))
theorem z_lald : zF am_lald := zF_r (fun pc lv st h pc' lv' st' h' hr => by
  unfold am_lald at hr
  repeat' split at hr
  all_goals first | (cases hr; done) | (cases hr; rfl))
theorem z_aald : zF am_aald := zF_r (fun pc lv st h pc' lv' st' h' hr => by
  unfold am_aald at hr
  repeat' split at hr
  all_goals first | (cases hr; done) | (cases hr; rfl))
theorem z_alength {E : am_En} : zF (am_alength E) := zF_r (fun pc lv st h pc' lv' st' h' hr => by
  unfold am_alength am_alen am_xalen at hr
  repeat' split at hr
  all_goals first | (cases hr; done) | (cases hr; rfl))
theorem z_iast : zF am_iast := fun pc lv st h pc' lv' st' h' hz hr => by
  unfold am_iast at hr
  split at hr
  · split at hr
    · rename_i u n f hq
      split at hr
      · rename_i hk
        cases hr
        have := z_get hz hq
        refine z_set hz (fun j hj => ?_)
        show (if _ then _ else _) = _
        rw [if_neg (by omega)]
        exact this j hj
      · cases hr
    · cases hr
  · cases hr
theorem z_bast : zF am_bast := fun pc lv st h pc' lv' st' h' hz hr => by
  unfold am_bast at hr
  split at hr
  · split at hr
    · rename_i u n f hq
      split at hr
      · rename_i hk
        cases hr
        have := z_get hz hq
        refine z_set hz (fun j hj => ?_)
        show (if _ then _ else _) = _
        rw [if_neg (by omega)]
        exact this j hj
      · cases hr
    · cases hr
  · cases hr
theorem z_last : zF am_last := fun pc lv st h pc' lv' st' h' hz hr => by
  unfold am_last at hr
  split at hr
  · split at hr
    · rename_i u n f hq
      split at hr
      · rename_i hk
        cases hr
        have := z_get hz hq
        refine z_set hz (fun j hj => ?_)
        show (if _ then _ else _) = _
        rw [if_neg (by omega)]
        exact this j hj
      · cases hr
    · cases hr
  · cases hr
theorem z_aast {tb op : Nat} : zF (am_aast tb op) := fun pc lv st h pc' lv' st' h' hz hr => by
  unfold am_aast at hr
  split at hr
  · split at hr
    · rename_i u n f cj vs hq hv
      split at hr
      · rename_i hk
        cases hr
        have := z_get hz hq
        refine z_set hz (fun j hj => ?_)
        rw [va_up_ne _ _ (by omega)]
        exact this j hj
      · cases hr
    · cases hr
  · split at hr
    · rename_i u n f hq
      split at hr
      · rename_i hk
        cases hr
        have := z_get hz hq
        refine z_set hz (fun j hj => ?_)
        rw [va_up_ne _ _ (by omega)]
        exact this j hj
      · cases hr
    · cases hr
  · cases hr
theorem z_copy : zF am_copy := fun pc lv st h pc' lv' st' h' hz hr => by
  obtain ⟨n, dp, q, sp, q0, c0, c1, c', rfl, h0, h1, hc, rfl, rfl, rfl⟩ := am_copy_n hr
  have := z_get hz h1
  obtain ⟨-, -, ⟨n0, f, n1, g, rfl, rfl, k1, k2, -, rfl⟩ | ⟨n0, f, n1, g, rfl, rfl, k1, k2, rfl⟩⟩ := am_cpc_n hc
  · refine z_set hz (fun j hj => ?_)
    unfold va_cpy
    rw [if_neg (by omega)]
    exact this j hj
  · refine z_set hz (fun j hj => ?_)
    unfold va_cpy
    rw [if_neg (by omega)]
    exact this j hj
def zX (x : am_St ⊕ am_Re) : Prop := match x with
  | .inl S => zH S.2.2.2.1
  | .inr r => zH r.2.1
theorem z_liftH {f : am_FH} {pc nc ns : Nat} {lv : List (Nat × Value)} {st : List Value} {h : List am_C} {x : am_St ⊕ am_Re} (hf : zF f) (hz : zH h) (hr : am_liftH (f pc lv st h) nc ns = some x) : zX x := by
  obtain ⟨_, _, _, _, h9, rfl⟩ := am_liftH_n hr
  exact hf _ _ _ _ _ _ _ _ hz h9
theorem z_lift {r : am_R} {nc ns : Nat} {h : List am_C} {x : am_St ⊕ am_Re} (hz : zH h) (hr : am_lift r h nc ns = some x) : zX x := by
  obtain ⟨_, _, _, -, rfl⟩ := am_lift_n hr
  exact hz
theorem z_newa {t pc nc ns : Nat} {lv : List (Nat × Value)} {st : List Value} {h : List am_C} {x : am_St ⊕ am_Re} (hz : zH h) (hr : am_liftN (am_newa t pc lv st h) nc ns = some x) : zX x := by
  obtain ⟨_, _, _, _, _, h9, rfl⟩ := am_liftN_n hr
  unfold am_newa at h9
  repeat' split at h9
  all_goals first | (cases h9; done) | (cases h9; exact z_app hz (z_zero _ _))
theorem z_newq {t pc nc ns : Nat} {lv : List (Nat × Value)} {st : List Value} {h : List am_C} {x : am_St ⊕ am_Re} (hz : zH h) (hr : am_liftN (am_newq t pc lv st h) nc ns = some x) : zX x := by
  obtain ⟨_, _, _, _, _, h9, rfl⟩ := am_liftN_n hr
  unfold am_newq at h9
  repeat' split at h9
  all_goals first | (cases h9; done) | (cases h9; exact z_app hz (z_zero _ _))
theorem z_make {E : am_En} {dd : Nat} {rows : List (Nat × Nat × Nat × Nat)} {a b c : Nat} {S : am_St} {x : am_St ⊕ am_Re} (hz : zH S.2.2.2.1) (hr : am_make E dd rows a b c S = some x) : zX x := by
  obtain ⟨pc, lv, st, h, nc, ns⟩ := S
  unfold am_make at hr
  dsimp only at hr
  split at hr
  · obtain ⟨_, _, _, _, _, h9, rfl⟩ := am_liftN_n hr
    unfold am_new at h9
    split at h9
    · cases h9
      exact z_app hz trivial
    · cases h9
  · split at hr
    · cases hr
      exact hz
    · cases hr
theorem z_back {E : am_En} {rows : List (Nat × Nat × Nat × Nat)} {pc : Nat} {lv : List (Nat × Value)} {rest : List Value} {nc ns : Nat} {o : Option am_Re} {x : am_St ⊕ am_Re} (ho : ∀ r, o = some r → zH r.2.1) (hr : am_back E rows pc lv rest nc ns o = some x) : zX x := by
  rcases o with _ | ⟨v | y, h, k, n⟩
  · cases hr
  · cases hr
    exact ho _ rfl
  · have h9 : zH h := ho _ rfl
    unfold am_back at hr
    dsimp only at hr
    split at hr
    · split at hr
      · split at hr
        · cases hr
          exact z_app h9 trivial
        · cases hr
      · cases hr
    · cases hr
      exact h9
theorem z_invoke {E : am_En} {call : am_Ca} {rows : List (Nat × Nat × Nat × Nat)} {cn : Nat → Nat} {a b c : Nat} {S : am_St} {x : am_St ⊕ am_Re} (hc : ∀ mi av h r, zH h → call mi av h = some r → zH r.2.1) (hz : zH S.2.2.2.1) (hr : am_invoke E call rows cn a b c S = some x) : zX x := by
  obtain ⟨pc, lv, st, h, nc, ns⟩ := S
  unfold am_invoke at hr
  dsimp only at hr
  split at hr
  · split at hr
    · split at hr
      · cases hr
        exact hz
      · cases hr
    · split at hr
      · split at hr
        · exact z_back (fun r h => hc _ _ _ _ hz h) hr
        · cases hr
      · cases hr
    all_goals first
      | (split at hr
         · exact z_back (fun r h => hc _ _ _ _ hz h) hr
         · cases hr)
      | cases hr
  · cases hr
theorem z_end {r : am_SR} {h : List am_C} {nc ns : Nat} {x : am_St ⊕ am_Re} (hz : zH h) (he : ∃ v, r = some (.inr (v, h, nc, ns)) ∨ r = none) (hr : r = some x) : zX x := by
  obtain ⟨v, rfl | rfl⟩ := he
  · cases hr
    exact hz
  · cases hr
theorem z_step {E : am_En} {cn : Nat → Nat} {dd : Nat} {call : am_Ca} {me : am_M} {t : am_I} {S : am_St} {x : am_St ⊕ am_Re} (hc : ∀ mi av h r, zH h → call mi av h = some r → zH r.2.1) (hz : zH S.2.2.2.1) (hr : am_step E cn dd call me t S = some x) : zX x := by
  obtain ⟨i, len, a, b, c⟩ := t
  unfold am_step at hr
  dsimp only at hr
  split at hr
  · exact z_liftH z_getfield hz hr
  · exact z_liftH z_putf hz hr
  · exact z_liftH z_iaload hz hr
  · exact z_liftH z_baload hz hr
  · exact z_liftH z_lald hz hr
  · exact z_liftH z_aald hz hr
  · exact z_liftH z_iast hz hr
  · exact z_liftH z_bast hz hr
  · exact z_liftH z_last hz hr
  · exact z_liftH z_aast hz hr
  · exact z_liftH z_alength hz hr
  · exact z_newa hz hr
  · exact z_newq hz hr
  · exact z_make hz hr
  · exact z_lift hz hr
  · exact z_lift hz hr
  · exact z_lift hz hr
  · exact z_lift hz hr
  · exact z_invoke hc hz hr
  · exact z_invoke hc hz hr
  · split at hr
    · exact z_liftH z_copy hz hr
    · exact z_invoke hc hz hr
  · unfold am_ireturn at hr
    repeat' split at hr
    all_goals first | (cases hr; done) | (cases hr; exact hz)
  · unfold am_lreturn at hr
    split at hr <;> cases hr
    exact hz
  · unfold am_areturn at hr
    split at hr <;> cases hr <;> exact hz
  · unfold am_return at hr
    split at hr <;> cases hr
    exact hz
  · exact z_lift hz hr
theorem z_run {E : am_En} {cn : Nat → Nat} {dd : Nat} {call : am_Ca} {me : am_M} (hc : ∀ mi av h r, zH h → call mi av h = some r → zH r.2.1) : ∀ (n : Nat) (S : am_St) (r : am_Re), zH S.2.2.2.1 → am_run E cn dd call me n S = some r → zH r.2.1 := by
  intro n
  induction n with
  | zero => intro S r _ hr; cases hr
  | succ n ih =>
    intro S r hz hr
    unfold am_run at hr
    split at hr
    · split at hr
      · rename_i S' hs
        exact ih S' r (z_step hc hz hs) hr
      · rename_i q hs
        cases hr
        exact z_step hc hz hs
      · cases hr
    · cases hr
theorem z_call {E : am_En} {cn : Nat → Nat} {pg : Nat → am_M} {f : Nat} : ∀ (d mi : Nat) (av : List Value) (h : List am_C) (r : am_Re), zH h → am_call E cn pg f d mi av h = some r → zH r.2.1 := by
  intro d
  induction d with
  | zero => intro mi av h r _ hr; cases hr
  | succ d ih =>
    intro mi av h r hz hr
    unfold am_call at hr
    split at hr
    · exact z_run ih f _ r hz hr
    · cases hr
