/-! ===== THE PURE MACHINE, part 28: .. and so do whole methods ===== -/
section AGT
variable {T : Type} {O : ag_O T} {lim : Nat} {R : T → List am_C → Prop} {X : ag_X} {e1 e1' : Nat × (Nat → Int32)} {e2 : (List Nat × List (List Int32)) × (Nat → Nat → FieldType) × (Nat → List Value) × (Nat → Nat) × (Nat → Nat) × Value} {cn : Nat → Nat} {dd : Nat} {me : am_M}
theorem ag_new_ok {ty : Nat} {S : ag_St T} {h : List am_C} {x : ag_St T ⊕ ag_Re T} (hO : ag_R O lim R) (hR : R S.2.2.2.1 h) (hr : ag_newa O lim ty S = some x) : ∃ y, am_liftN (am_newa ty S.1 S.2.1 S.2.2.1 h) S.2.2.2.2.1 S.2.2.2.2.2 = some y ∧ ag_RS R x y := by
  obtain ⟨pc, lv, st, t, nc, ns⟩ := S
  rcases st with _ | ⟨v, r⟩
  · cases hr
  · cases v <;> first | (cases hr; done) | skip
    rename_i n
    unfold ag_newa at hr
    dsimp only at hr
    split at hr
    · rename_i hz
      obtain ⟨hl, hs⟩ := ag_mk_ok hO hR hr
      unfold am_newa
      dsimp only
      rw [if_pos ⟨hz.1, hz.2.1, hz.2.2, hl⟩]
      exact ⟨_, rfl, hs⟩
    · cases hr
theorem ag_newq_ok {ty : Nat} {S : ag_St T} {h : List am_C} {x : ag_St T ⊕ ag_Re T} (hO : ag_R O lim R) (hR : R S.2.2.2.1 h) (hr : ag_newq O lim ty S = some x) : ∃ y, am_liftN (am_newq ty S.1 S.2.1 S.2.2.1 h) S.2.2.2.2.1 S.2.2.2.2.2 = some y ∧ ag_RS R x y := by
  obtain ⟨pc, lv, st, t, nc, ns⟩ := S
  rcases st with _ | ⟨v, r⟩
  · cases hr
  · cases v <;> first | (cases hr; done) | skip
    rename_i n
    unfold ag_newq at hr
    dsimp only at hr
    split at hr
    · rename_i hz
      obtain ⟨hl, hs⟩ := ag_mk_ok hO hR hr
      unfold am_newq
      dsimp only
      rw [if_pos ⟨hz.1, hz.2.1, hz.2.2, hl⟩]
      exact ⟨_, rfl, hs⟩
    · cases hr
theorem ag_make_ok {rows : List (Nat × Nat × Nat × Nat)} {a b c : Nat} {S : ag_St T} {h : List am_C} {x : ag_St T ⊕ ag_Re T} (hO : ag_R O lim R) (hR : R S.2.2.2.1 h) (hr : ag_make O lim (e1, e2) dd rows a b c S = some x) : ∃ y, am_make (e1', e2) dd rows a b c (ag_with S h) = some y ∧ ag_RS R x y := by
  obtain ⟨pc, lv, st, t, nc, ns⟩ := S
  cases c with
  | zero =>
    have hr : ag_mk O lim (.inr (a, e2.2.2.1 a)) (e2.2.2.1 a).length (pc + 3) lv st t nc ns = some x := hr
    obtain ⟨hl, hs⟩ := ag_mk_ok hO hR hr
    refine ⟨_, ?_, hs⟩
    show am_liftN (am_new a (e2.2.2.1 a) pc lv st h) nc ns = _
    unfold am_new
    rw [if_pos hl]
    rfl
  | succ n =>
    have hr : (if 6 ≤ dd ∧ am_cat st ≤ 8 ∧ am_covered rows (pc + 4 + b + 3) = false then some (.inr (.inr a, t, nc + 1, ns + 6)) else none : ag_SR T) = some x := hr
    split at hr
    · rename_i hz
      cases hr
      refine ⟨.inr (.inr a, h, nc + 1, ns + 6), ?_, h, rfl, hR⟩
      show (if 6 ≤ dd ∧ am_cat st ≤ 8 ∧ am_covered rows (pc + 4 + b + 3) = false then some (.inr (.inr a, h, nc + 1, ns + 6)) else none : am_SR) = _
      rw [if_pos hz]
    · cases hr
theorem ag_step_ok {call : ag_Ca T} {call' : am_Ca} (hO : ag_R O lim R) (hX : ag_Xok X e1')
    (hc : ∀ mi av t h r, R t h → call mi av t = some r → ∃ h', call' mi av h = some (r.1, h', r.2.2.1, r.2.2.2) ∧ R r.2.1 h') {i9 : am_I} {S : ag_St T} {h : List am_C} {x : ag_St T ⊕ ag_Re T} (hR : R S.2.2.2.1 h)
    (hr : ag_step O lim X (e1, e2) cn dd call me i9 S = some x) : ∃ y, am_step (e1', e2) cn dd call' me i9 (ag_with S h) = some y ∧ ag_RS R x y := by
  obtain ⟨i, len, a, b, c⟩ := i9
  obtain ⟨pc, lv, st, t, nc, ns⟩ := S
  cases hp : ag_pi i with
  | true =>
    have r1 : ag_step O lim X (e1, e2) cn dd call me (i, len, a, b, c) (pc, lv, st, t, nc, ns) = ag_lift (am_pure i len me.2.2.1 pc lv st) t nc ns := by cases i <;> first | rfl | exact Bool.noConfusion (show false = true from hp)
    have r2 : am_step (e1', e2) cn dd call' me (i, len, a, b, c) (ag_with (pc, lv, st, t, nc, ns) h) = am_lift (am_pure i len me.2.2.1 pc lv st) h nc ns := by cases i <;> first | rfl | exact Bool.noConfusion (show false = true from hp)
    rw [r1] at hr
    rw [r2]
    exact ag_lift_ok hR hr
  | false =>
    cases i <;> first | exact Bool.noConfusion (show true = false from hp) | skip
    case getfield idx =>
      cases c with
      | zero => exact ag_liftH_ok (ag_Ok_do hO hR ad_getf_e) hr
      | succ n => exact ag_liftH_ok (ag_Ok_out hR ag_xg_e) hr
    case putfield idx => exact ag_liftH_ok (ag_Ok_do hO hR ad_putf_e) hr
    case iaload =>
      refine ag_liftH_ok (r := ag_iaload O X pc lv st t) (r' := am_iaload (e1', e2) pc lv st h) ?_ hr
      rcases st with _ | ⟨v, _ | ⟨w, r⟩⟩
      · exact ag_Ok_no
      · cases v <;> exact ag_Ok_no
      · cases v <;> first | exact ag_Ok_no | (cases w <;> first | exact ag_Ok_no | skip)
        rename_i i q
        unfold ag_iaload am_iaload
        dsimp only
        split
        · exact ag_Ok_do hO hR ad_iald_e
        · intro pc' lv' st' t' he
          split at he
          · rename_i L v hL hv
            split at he
            · rename_i hz
              cases he
              obtain ⟨rfl, hz⟩ := hz
              have eL := hX.1 L hL
              have ev := hX.2 _ v hv
              refine ⟨h, ?_, hR⟩
              unfold am_xiald
              dsimp only
              rw [eL, if_pos ⟨rfl, hz⟩, ev]
            · cases he
          · cases he
    case baload =>
      refine ag_liftH_ok (r := ag_baload O (e1, e2) pc lv st t) (r' := am_baload (e1', e2) pc lv st h) ?_ hr
      rcases st with _ | ⟨v, _ | ⟨w, r⟩⟩
      · exact ag_Ok_no
      · cases v <;> exact ag_Ok_no
      · cases v <;> first | exact ag_Ok_no | (cases w <;> first | exact ag_Ok_no | skip)
        rename_i i q
        unfold ag_baload am_baload
        dsimp only
        split
        · exact ag_Ok_do hO hR ad_bald_e
        · exact ag_Ok_out hR ag_xb_e
    case laload => exact ag_liftH_ok (ag_Ok_do hO hR ad_lald_e) hr
    case aaload => exact ag_liftH_ok (ag_Ok_do hO hR ad_aald_e) hr
    case iastore => exact ag_liftH_ok (ag_Ok_do hO hR ad_iast_e) hr
    case bastore => exact ag_liftH_ok (ag_Ok_do hO hR ad_bast_e) hr
    case lastore => exact ag_liftH_ok (ag_Ok_do hO hR ad_last_e) hr
    case aastore => exact ag_liftH_ok (ag_aast_ok hO hR) hr
    case arraylength =>
      refine ag_liftH_ok (r := ag_alength O X (e1, e2) pc lv st t) (r' := am_alength (e1', e2) pc lv st h) ?_ hr
      rcases st with _ | ⟨v, r⟩
      · exact ag_Ok_no
      · cases v <;> first | exact ag_Ok_no | skip
        rename_i q
        unfold ag_alength am_alength
        dsimp only
        split
        · exact ag_Ok_do hO hR ad_alen_e
        · split
          · rename_i hq
            subst hq
            intro pc' lv' st' t' he
            split at he
            · rename_i L hL
              cases he
              have eL := hX.1 L hL
              refine ⟨h, ?_, hR⟩
              unfold am_xalen
              dsimp only
              rw [eL, if_pos rfl]
            · cases he
          · rename_i hq
            refine ag_Ok_out hR ?_
            rw [ag_xl_n hq]
            exact ag_xl_e
    case newarray at9 => exact ag_new_ok (S := (pc, lv, st, t, nc, ns)) hO hR hr
    case anewarray idx => exact ag_newq_ok (S := (pc, lv, st, t, nc, ns)) hO hR hr
    case new idx => exact ag_make_ok (S := (pc, lv, st, t, nc, ns)) hO hR hr
    case ldc idx => exact ag_lift_ok hR hr
    case ldc_w idx => exact ag_lift_ok hR hr
    case ldc2_w idx => exact ag_lift_ok (t := t) (r := am_push (.long (Int64.ofNat a)) 3 me.2.2.1 pc lv st) (nc := nc) (ns := ns) hR hr
    case getstatic idx => exact ag_lift_ok (t := t) (r := am_push (am_gs e2.2.2.2.2.2 c) 3 me.2.2.1 pc lv st) (nc := nc) (ns := ns) hR hr
    case invokevirtual idx => exact ag_invoke_ok hO hR hc hr
    case invokespecial idx => exact ag_invoke_ok hO hR hc hr
    case invokestatic idx =>
      unfold ag_step at hr
      dsimp only at hr
      split at hr
      · exact ag_liftH_ok (ag_copy_ok hO hR) hr
      · rename_i hne
        obtain ⟨y, h1, h2⟩ := ag_invoke_ok hO hR hc hr
        refine ⟨y, ?_, h2⟩
        unfold am_step
        dsimp only [ag_with]
        split
        · exact (hne rfl).elim
        · exact h1
    case ireturn => exact ag_end_ok hR ag_ire_e hr
    case lreturn => exact ag_end_ok hR ag_lre_e hr
    case areturn => exact ag_end_ok hR ag_are_e hr
    case return_ => exact ag_end_ok hR ag_re_e hr
theorem ag_run_ok {call : ag_Ca T} {call' : am_Ca} (hO : ag_R O lim R) (hX : ag_Xok X e1')
    (hc : ∀ mi av t h r, R t h → call mi av t = some r → ∃ h', call' mi av h = some (r.1, h', r.2.2.1, r.2.2.2) ∧ R r.2.1 h') : ∀ (n : Nat) (S : ag_St T) (h : List am_C) (r : ag_Re T), R S.2.2.2.1 h → ag_run O lim X (e1, e2) cn dd call me n S = some r →
      ∃ h', am_run (e1', e2) cn dd call' me n (ag_with S h) = some (r.1, h', r.2.2.1, r.2.2.2) ∧ R r.2.1 h' := by
  intro n
  induction n with
  | zero => intro S h r _ hr; cases hr
  | succ n ih =>
    intro S h r hR hr
    unfold ag_run at hr
    split at hr
    · rename_i i hi
      have hi' : me.2.2.2.2.2 (ag_with S h).1 = some i := hi
      unfold am_run
      rw [hi']
      dsimp only
      split at hr
      · rename_i S' hs
        obtain ⟨y, e, hy⟩ := ag_step_ok (call' := call') hO hX hc hR hs
        obtain ⟨pc, lv, st, t, nc, ns⟩ := S'
        obtain ⟨h', rfl, hR'⟩ := hy
        rw [e]
        exact ih (pc, lv, st, t, nc, ns) h' r hR' hr
      · rename_i r' hs
        cases hr
        obtain ⟨y, e, hy⟩ := ag_step_ok (call' := call') hO hX hc hR hs
        obtain ⟨v, t, k, m⟩ := r
        obtain ⟨h', rfl, hR'⟩ := hy
        rw [e]
        exact ⟨h', rfl, hR'⟩
      · cases hr
    · cases hr
theorem ag_call_ok {pg : Nat → am_M} (hO : ag_R O lim R) (hX : ag_Xok X e1') (fuel : Nat) : ∀ (d mi : Nat) (av : List Value) (t : T) (h : List am_C) (r : ag_Re T), R t h → ag_call O lim X (e1, e2) cn pg fuel d mi av t = some r →
    ∃ h', am_call (e1', e2) cn pg fuel d mi av h = some (r.1, h', r.2.2.1, r.2.2.2) ∧ R r.2.1 h' := by
  intro d
  induction d with
  | zero => intro mi av t h r _ hr; cases hr
  | succ d ih =>
    intro mi av t h r hR hr
    unfold ag_call at hr
    unfold am_call
    split at hr
    · rename_i hz
      rw [if_pos hz]
      exact ag_run_ok hO hX ih fuel (0, lv_args 0 av, [], t, 0, 0) h r hR hr
    · cases hr
theorem ag_go_ok {call : ag_Ca T} {call' : am_Ca} (hO : ag_R O lim R) (hX : ag_Xok X e1')
    (hc : ∀ mi av t h r, R t h → call mi av t = some r → ∃ h', call' mi av h = some (r.1, h', r.2.2.1, r.2.2.2) ∧ R r.2.1 h') : ∀ (n : Nat) (S S1 : ag_St T) (h : List am_C), R S.2.2.2.1 h → ag_go O lim X (e1, e2) cn dd call me n S = some S1 →
      ∃ h', R S1.2.2.2.1 h' ∧ ∀ k, am_run (e1', e2) cn dd call' me (n + k) (ag_with S h) = am_run (e1', e2) cn dd call' me k (ag_with S1 h') := by
  intro n
  induction n with
  | zero => intro S S1 h hR hr; cases hr; exact ⟨h, hR, fun k => by rw [Nat.zero_add]⟩
  | succ n ih =>
    intro S S1 h hR hr
    unfold ag_go at hr
    split at hr
    · rename_i i hi
      have hi' : me.2.2.2.2.2 (ag_with S h).1 = some i := hi
      split at hr
      · rename_i S' hs
        obtain ⟨y, e, hy⟩ := ag_step_ok (call' := call') hO hX hc hR hs
        obtain ⟨pc, lv, st, t, nc, ns⟩ := S'
        obtain ⟨h', rfl, hR'⟩ := hy
        obtain ⟨h2, hR2, hk⟩ := ih (pc, lv, st, t, nc, ns) S1 h' hR' hr
        refine ⟨h2, hR2, fun k => ?_⟩
        rw [show n + 1 + k = (n + k) + 1 by omega]
        rw [am_run]
        rw [hi']
        dsimp only
        rw [e]
        exact hk k
      · cases hr
    · cases hr
end AGT
