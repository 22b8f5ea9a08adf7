/-! ===== THE PURE MACHINE, part 27: over any heap that stands for the list, the machine does what it does over the list ===== -/
section AGS
variable {T : Type} {O : ag_O T} {lim : Nat} {R : T → List am_C → Prop}
def ag_with (S : ag_St T) (h : List am_C) : am_St := (S.1, S.2.1, S.2.2.1, h, S.2.2.2.2.1, S.2.2.2.2.2)
def ag_RS (R : T → List am_C → Prop) (x : ag_St T ⊕ ag_Re T) (y : am_St ⊕ am_Re) : Prop := match x with
  | .inl (pc, lv, st, t, nc, ns) => ∃ h, y = .inl (pc, lv, st, h, nc, ns) ∧ R t h
  | .inr (v, t, nc, ns) => ∃ h, y = .inr (v, h, nc, ns) ∧ R t h
def ag_Ok (R : T → List am_C → Prop) (r : ag_RH T) (r' : am_RH) : Prop := ∀ pc lv st t, r = some (pc, lv, st, t) → ∃ h, r' = some (pc, lv, st, h) ∧ R t h
variable {t : T} {h : List am_C} {pc nc ns : Nat} {lv : List (Nat × Value)} {st : List Value} {x : ag_St T ⊕ ag_Re T}
theorem ag_liftH_ok {r : ag_RH T} {r' : am_RH} (hk : ag_Ok R r r') (hr : ag_liftH r nc ns = some x) : ∃ y, am_liftH r' nc ns = some y ∧ ag_RS R x y := by
  cases r with
  | none => cases hr
  | some q =>
    obtain ⟨pc, lv, st, t⟩ := q
    obtain ⟨h', e, hR⟩ := hk _ _ _ _ rfl
    cases hr
    subst e
    exact ⟨_, rfl, h', rfl, hR⟩
theorem ag_lift_ok {r : am_R} (hR : R t h) (hr : ag_lift r t nc ns = some x) : ∃ y, am_lift r h nc ns = some y ∧ ag_RS R x y := by
  cases r with
  | none => cases hr
  | some q =>
    obtain ⟨pc, lv, st⟩ := q
    cases hr
    exact ⟨_, rfl, h, rfl, hR⟩
theorem ag_Ok_do {d : ag_D} {len : Nat} {r' : am_RH} (hO : ag_R O lim R) (hR : R t h) (e : r' = ag_do ag_Li d len pc lv st h) : ag_Ok R (ag_do O d len pc lv st t) r' := fun _ _ _ _ he => by
  rw [e]
  exact ag_do_ok hO hR he
theorem ag_Ok_out {r r' : am_RH} (hR : R t h) (e : r' = ag_out r h) : ag_Ok R (ag_out r t) r' := fun pc lv st t' he => by
  subst e
  cases r with
  | none => cases he
  | some q =>
    obtain ⟨pc, lv, st, h0⟩ := q
    cases he
    exact ⟨h, rfl, hR⟩
theorem ag_Ok_no {r' : am_RH} : ag_Ok R (none : ag_RH T) r' := fun _ _ _ _ he => by cases he
theorem ag_xi_e {L : Nat} {xs : Nat → Int32} : am_xiald L xs pc lv st h = ag_out (am_xiald L xs pc lv st []) h := by
  rcases st with _ | ⟨v, _ | ⟨w, r⟩⟩
  · rfl
  · cases v <;> rfl
  · cases v <;> first | rfl | (cases w <;> first | rfl | (unfold am_xiald; dsimp only; split <;> rfl))
theorem ag_xb_e {len : List Nat} {byt : List (List Int32)} : am_xbald len byt pc lv st h = ag_out (am_xbald len byt pc lv st []) h := by
  rcases st with _ | ⟨v, _ | ⟨w, r⟩⟩
  · rfl
  · cases v <;> rfl
  · cases v <;> first | rfl | (cases w <;> first | rfl | (unfold am_xbald; dsimp only; split <;> rfl))
theorem ag_xl_e {L : Nat} {len : List Nat} : am_xalen L len pc lv st h = ag_out (am_xalen L len pc lv st []) h := by
  rcases st with _ | ⟨v, r⟩
  · rfl
  · cases v <;> first | rfl | (unfold am_xalen; dsimp only; split <;> first | rfl | (split <;> rfl))
theorem ag_xl_n {L : Nat} {len : List Nat} {q : Nat} {r : List Value} (hq : ¬ q = 1000000) : am_xalen L len pc lv (.ref q :: r) h = am_xalen 0 len pc lv (.ref q :: r) h := by
  unfold am_xalen
  dsimp only
  rw [if_neg hq, if_neg hq]
theorem ag_xg_e {len : List Nat} {w : Nat} : am_xgetf len w pc lv st h = ag_out (am_xgetf len w pc lv st []) h := by
  rcases st with _ | ⟨v, r⟩
  · rfl
  · cases v <;> first | rfl | skip
    rename_i q
    unfold am_xgetf
    dsimp only
    split
    · rcases w with _ | _ | _ | w <;> rfl
    · rfl
theorem ag_ire_e {ret : Option FieldType} : am_ireturn ret st h nc ns = ag_end (am_ireturn ret st [] nc ns) h := by
  rcases st with _ | ⟨v, _ | ⟨w, r⟩⟩
  · rfl
  · cases v <;> first | rfl | skip
    cases ret with
    | none => rfl
    | some ty => cases ty <;> first | rfl | (unfold am_ireturn; dsimp only; split <;> rfl)
  · cases v <;> rfl
theorem ag_lre_e {ret : Option FieldType} : am_lreturn ret st h nc ns = ag_end (am_lreturn ret st [] nc ns) h := by
  rcases st with _ | ⟨v, _ | ⟨w, r⟩⟩
  · rfl
  · cases v <;> first | rfl | skip
    cases ret with
    | none => rfl
    | some ty => cases ty <;> rfl
  · cases v <;> rfl
theorem ag_are_e {ret : Option FieldType} : am_areturn ret st h nc ns = ag_end (am_areturn ret st [] nc ns) h := by
  rcases st with _ | ⟨v, _ | ⟨w, r⟩⟩
  · rfl
  · cases v <;> first | rfl | (cases ret with
      | none => rfl
      | some ty => cases ty <;> rfl)
  · cases v <;> rfl
theorem ag_re_e {ret : Option FieldType} : am_return ret st h nc ns = ag_end (am_return ret st [] nc ns) h := by
  rcases st with _ | ⟨v, r⟩
  · cases ret <;> rfl
  · rfl
theorem ag_end_ok {r r' : am_SR} (hR : R t h) (e : r' = ag_end r h) (hr : ag_end r t = some x) : ∃ y, r' = some y ∧ ag_RS R x y := by
  subst e
  rcases r with _ | (S | ⟨v, h0, a, b⟩)
  · cases hr
  · cases hr
  · cases hr
    exact ⟨_, rfl, h, rfl, hR⟩
theorem ag_mk_ok {c : am_C} {n : Nat} (hO : ag_R O lim R) (hR : R t h) (hr : ag_mk O lim c n pc lv st t nc ns = some x) : h.length < 1000000 ∧ ag_RS R x (.inl (pc, lv, .ref h.length :: st, h ++ [c], nc + 1, ns + n)) := by
  unfold ag_mk at hr
  split at hr
  · rename_i hl
    cases hr
    have hlen := hO.2.2.2.1 t h hR
    refine ⟨?_, h ++ [c], ?_, hO.2.2.1 t h c hR hl⟩
    · have := hO.2.2.2.2
      omega
    · rw [hlen]
  · cases hr
theorem ag_find_e {e1 e1' : Nat × (Nat → Int32)} {e2 : (List Nat × List (List Int32)) × (Nat → Nat → FieldType) × (Nat → List Value) × (Nat → Nat) × (Nat → Nat) × Value} (rows : List (Nat × Nat × Nat × Nat)) (pc x : Nat) : am_find (e1, e2) rows pc x = am_find (e1', e2) rows pc x := by
  induction rows with
  | nil => rfl
  | cons r rs ih =>
    unfold am_find
    rw [ih]
theorem ag_back_ok {e1 e1' : Nat × (Nat → Int32)} {e2 : (List Nat × List (List Int32)) × (Nat → Nat → FieldType) × (Nat → List Value) × (Nat → Nat) × (Nat → Nat) × Value} {rows : List (Nat × Nat × Nat × Nat)} {r : Option (ag_Re T)} {r' : Option am_Re} (hO : ag_R O lim R)
    (hk : ∀ v, r = some v → ∃ h', r' = some (v.1, h', v.2.2.1, v.2.2.2) ∧ R v.2.1 h') (hr : ag_back O lim (e1, e2) rows pc lv st nc ns r = some x) : ∃ y, am_back (e1', e2) rows pc lv st nc ns r' = some y ∧ ag_RS R x y := by
  rcases r with _ | ⟨v | a, t, k, n⟩
  · cases hr
  · obtain ⟨h', e, hR⟩ := hk _ rfl
    subst e
    cases hr
    exact ⟨_, rfl, h', rfl, hR⟩
  · obtain ⟨h', e, hR⟩ := hk _ rfl
    subst e
    unfold ag_back at hr
    dsimp only at hr
    unfold am_back
    dsimp only
    split at hr
    · rename_i hc
      rw [if_pos hc, ← ag_find_e (e1 := e1)]
      cases hf : am_find (e1, e2) rows pc a with
      | none => rw [hf] at hr; cases hr
      | some b =>
        rw [hf] at hr
        dsimp only at hr ⊢
        split at hr
        · rename_i hl
          cases hr
          have hlen := hO.2.2.2.1 t h' hR
          have hl2 : h'.length < 1000000 := by
            have := hO.2.2.2.2
            omega
          rw [if_pos hl2]
          refine ⟨_, rfl, h' ++ [.inr (e2.2.2.2.1 a, [])], ?_, hO.2.2.1 t h' _ hR hl⟩
          rw [hlen]
        · cases hr
    · rename_i hc
      rw [if_neg hc]
      cases hr
      exact ⟨_, rfl, h', rfl, hR⟩
theorem ag_aast_ok {tb op : Nat} (hO : ag_R O lim R) (hR : R t h) : ag_Ok R (ag_aast O tb op pc lv st t) (am_aast tb op pc lv st h) := by
  intro pc' lv' st' t' he
  unfold ag_aast at he
  split at he
  · rename_i y r
    split at he
    · rename_i cj fs hx
      have hx' := hO.1 _ _ _ _ hR hx
      unfold ag_do at he
      rcases r with _ | ⟨w, _ | ⟨z, r⟩⟩
      · cases he
      · cases w <;> cases he
      · cases w <;> first | (cases he; done) | skip
        cases z <;> first | (cases he; done) | skip
        rename_i i q
        have he : ag_acc O q _ (pc + 1) lv t = some (pc', lv', st', t') := he
        unfold ag_acc at he
        split at he
        · rename_i c hc
          have hc' := hO.1 _ _ _ _ hR hc
          unfold am_aast
          dsimp only
          rw [hc', hx']
          rcases c with ⟨u, n, f | f | f | f | f⟩ | ⟨ck, gs⟩ <;> first | (cases he; done) | skip
          dsimp only at he ⊢
          split at he
          · rename_i st1 hg
            split at hg <;> cases hg
          · rename_i st1 c1 hg
            split at hg
            · rename_i hz
              cases hg
              cases he
              rw [if_pos hz]
              exact ⟨_, rfl, hO.2.1 _ _ _ _ _ hR hc⟩
            · cases hg
          · cases he
        · cases he
    · cases he
  · exact ag_Ok_do hO hR ad_astn_e _ _ _ _ he
  · cases he
theorem ag_copy_ok (hO : ag_R O lim R) (hR : R t h) : ag_Ok R (ag_copy O pc lv st t) (am_copy pc lv st h) := by
  intro pc' lv' st' t' he
  unfold ag_copy at he
  split at he
  · rename_i n dp q sp q0 r
    split at he
    · rename_i c0 c h0 h1
      split at he
      · rename_i c' hc
        cases he
        refine ⟨h.set q c', ?_, hO.2.1 _ _ _ _ _ hR h1⟩
        unfold am_copy
        dsimp only
        rw [hO.1 _ _ _ _ hR h0, hO.1 _ _ _ _ hR h1]
        dsimp only
        rw [hc]
      · cases he
    · cases he
  · cases he
/-- the instructions that touch no cell -/
def ag_pi (i : Instr) : Bool := match i with
  | .getfield _ | .putfield _ | .iaload | .baload | .laload | .aaload | .iastore | .bastore | .lastore | .aastore | .arraylength | .newarray _ | .anewarray _ | .new _ | .ldc _ | .ldc_w _ | .ldc2_w _ | .getstatic _ | .invokevirtual _ | .invokespecial _ | .invokestatic _ | .ireturn | .lreturn | .areturn | .return_ => false
  | _ => true
theorem ag_invoke_ok {e1 e1' : Nat × (Nat → Int32)} {e2 : (List Nat × List (List Int32)) × (Nat → Nat → FieldType) × (Nat → List Value) × (Nat → Nat) × (Nat → Nat) × Value} {rows : List (Nat × Nat × Nat × Nat)} {cn : Nat → Nat} {a b c : Nat} {call : ag_Ca T} {call' : am_Ca} (hO : ag_R O lim R) (hR : R t h)
    (hc : ∀ mi av t h r, R t h → call mi av t = some r → ∃ h', call' mi av h = some (r.1, h', r.2.2.1, r.2.2.2) ∧ R r.2.1 h') (hr : ag_invoke O lim (e1, e2) call rows cn a b c (pc, lv, st, t, nc, ns) = some x) : ∃ y, am_invoke (e1', e2) call' rows cn a b c (pc, lv, st, h, nc, ns) = some y ∧ ag_RS R x y := by
  unfold ag_invoke at hr
  dsimp only at hr
  unfold am_invoke
  dsimp only
  split at hr
  · rename_i hb
    rw [if_pos hb]
    split at hr
    · rename_i q rest heq
      rw [heq]
      show ∃ y, (if am_cat rest ≤ 8 then some (.inl (pc + 3, lv, rest, h, nc, ns)) else none : am_SR) = some y ∧ ag_RS R x y
      split at hr
      · rename_i hz
        cases hr
        exact ⟨_, if_pos hz, h, rfl, hR⟩
      · cases hr
    · rename_i q rest heq
      rw [heq]
      show ∃ y, (match h[q]? with
        | some (.inr (cj, _)) => if cj = cn a ∧ am_cat rest ≤ 8 then am_back (e1', e2) rows pc lv rest nc ns (call' a (.ref q :: (st.take b).reverse) h) else none
        | _ => none : am_SR) = some y ∧ ag_RS R x y
      split at hr
      · rename_i cj fs hq
        rw [hO.1 _ _ _ _ hR hq]
        dsimp only
        split at hr
        · rename_i hz
          rw [if_pos hz]
          exact ag_back_ok hO (fun v hv => hc _ _ _ _ _ hR hv) hr
        · cases hr
      · cases hr
    · rename_i q rest heq
      rw [heq]
      show ∃ y, (if (q = am_kT ((q - 1000001) / 2) ∧ (q - 1000001) / 2 < e2.1.1.length) ∧ am_cat rest ≤ 8 then am_back (e1', e2) rows pc lv rest nc ns (call' a (.ref q :: (st.take b).reverse) h) else none : am_SR) = some y ∧ ag_RS R x y
      split at hr
      · rename_i hz
        rw [if_pos hz]
        exact ag_back_ok hO (fun v hv => hc _ _ _ _ _ hR hv) hr
      · cases hr
    · rename_i q rest heq
      rw [heq]
      show ∃ y, (if am_cat rest ≤ 8 then am_back (e1', e2) rows pc lv rest nc ns (call' a (.ref q :: (st.take b).reverse) h) else none : am_SR) = some y ∧ ag_RS R x y
      split at hr
      · rename_i hz
        rw [if_pos hz]
        exact ag_back_ok hO (fun v hv => hc _ _ _ _ _ hR hv) hr
      · cases hr
    · rename_i q rest heq
      rw [heq]
      show ∃ y, (if am_cat rest ≤ 8 then am_back (e1', e2) rows pc lv rest nc ns (call' a (.ref q :: (st.take b).reverse) h) else none : am_SR) = some y ∧ ag_RS R x y
      split at hr
      · rename_i hz
        rw [if_pos hz]
        exact ag_back_ok hO (fun v hv => hc _ _ _ _ _ hR hv) hr
      · cases hr
    · split at hr
      · rename_i hz
        refine Exists.imp (fun y hy => ⟨?_, hy.2⟩) (ag_back_ok (e1' := e1') hO (fun v hv => hc _ _ _ _ _ hR hv) hr)
        exact (if_pos hz).trans hy.1
      · cases hr
    · split at hr
      · rename_i hz
        refine Exists.imp (fun y hy => ⟨?_, hy.2⟩) (ag_back_ok (e1' := e1') hO (fun v hv => hc _ _ _ _ _ hR hv) hr)
        exact (if_pos hz).trans hy.1
      · cases hr
    · split at hr
      · rename_i hz
        refine Exists.imp (fun y hy => ⟨?_, hy.2⟩) (ag_back_ok (e1' := e1') hO (fun v hv => hc _ _ _ _ _ hR hv) hr)
        exact (if_pos hz).trans hy.1
      · cases hr
    · cases hr
  · cases hr
end AGS
