/-! ===== ONE CALL ON FRESH OBJECTS: steps over what is known of the cells ===== -/
def sX (L : Nat) (xs : Nat → Int32) : ag_X := (some L, fun j => some (xs j))
noncomputable def sC (L : Nat) (xs : Nat → Int32) (sio : Value) (d : Nat) : ag_Ca av_T := ag_call av_O 8192 (sX L xs) (nm_E 0 (fun _ => 0) sio) nm_cn pg 100000 d
noncomputable def sR (L : Nat) (xs : Nat → Int32) (sio : Value) (d : Nat) (me : am_M) (n : Nat) (S : ag_St av_T) : Option (ag_Re av_T) := ag_run av_O 8192 (sX L xs) (nm_E 0 (fun _ => 0) sio) nm_cn (d + 1) (sC L xs sio d) me n S
noncomputable def sS (L : Nat) (xs : Nat → Int32) (sio : Value) (d : Nat) (me : am_M) (i : am_I) (S : ag_St av_T) : ag_SR av_T := ag_step av_O 8192 (sX L xs) (nm_E 0 (fun _ => 0) sio) nm_cn (d + 1) (sC L xs sio d) me i S
noncomputable def sG (L : Nat) (xs : Nat → Int32) (sio : Value) (d : Nat) (me : am_M) (n : Nat) (S : ag_St av_T) : Option (ag_St av_T) := ag_go av_O 8192 (sX L xs) (nm_E 0 (fun _ => 0) sio) nm_cn (d + 1) (sC L xs sio d) me n S
section SYM
variable {L : Nat} {xs : Nat → Int32} {sio : Value} {d : Nat} {me : am_M} {n : Nat} {pc pc' nc nc' ns ns' : Nat} {lv lv' : List (Nat × Value)} {st st' : List Value} {t t' : av_T} {i : am_I}
theorem st_go (hi : me.2.2.2.2.2 pc = some i) (hs : sS L xs sio d me i (pc, lv, st, t, nc, ns) = some (.inl (pc', lv', st', t', nc', ns'))) : sR L xs sio d me (n + 1) (pc, lv, st, t, nc, ns) = sR L xs sio d me n (pc', lv', st', t', nc', ns') := by
  show ag_run av_O 8192 (sX L xs) (nm_E 0 (fun _ => 0) sio) nm_cn (d + 1) (sC L xs sio d) me (n + 1) (pc, lv, st, t, nc, ns) = _
  rw [ag_run]
  rw [show me.2.2.2.2.2 (pc, lv, st, t, nc, ns).1 = some i from hi]
  dsimp only
  rw [show ag_step av_O 8192 (sX L xs) (nm_E 0 (fun _ => 0) sio) nm_cn (d + 1) (sC L xs sio d) me i (pc, lv, st, t, nc, ns) = _ from hs]
  rfl
theorem st_gg (hi : me.2.2.2.2.2 pc = some i) (hs : sS L xs sio d me i (pc, lv, st, t, nc, ns) = some (.inl (pc', lv', st', t', nc', ns'))) : sG L xs sio d me (n + 1) (pc, lv, st, t, nc, ns) = sG L xs sio d me n (pc', lv', st', t', nc', ns') := by
  show ag_go av_O 8192 (sX L xs) (nm_E 0 (fun _ => 0) sio) nm_cn (d + 1) (sC L xs sio d) me (n + 1) (pc, lv, st, t, nc, ns) = _
  rw [ag_go]
  rw [show me.2.2.2.2.2 (pc, lv, st, t, nc, ns).1 = some i from hi]
  dsimp only
  rw [show ag_step av_O 8192 (sX L xs) (nm_E 0 (fun _ => 0) sio) nm_cn (d + 1) (sC L xs sio d) me i (pc, lv, st, t, nc, ns) = _ from hs]
  rfl
theorem st_end {r : ag_Re av_T} (hi : me.2.2.2.2.2 pc = some i) (hs : sS L xs sio d me i (pc, lv, st, t, nc, ns) = some (.inr r)) : sR L xs sio d me (n + 1) (pc, lv, st, t, nc, ns) = some r := by
  show ag_run av_O 8192 (sX L xs) (nm_E 0 (fun _ => 0) sio) nm_cn (d + 1) (sC L xs sio d) me (n + 1) (pc, lv, st, t, nc, ns) = _
  rw [ag_run]
  rw [show me.2.2.2.2.2 (pc, lv, st, t, nc, ns).1 = some i from hi]
  dsimp only
  rw [show ag_step av_O 8192 (sX L xs) (nm_E 0 (fun _ => 0) sio) nm_cn (d + 1) (sC L xs sio d) me i (pc, lv, st, t, nc, ns) = _ from hs]
theorem st_in {mi : Nat} {av : List Value} {lv0 : List (Nat × Value)} {r : ag_Re av_T} (hp : pg mi = me) (hc : decide (am_cat av ≤ me.2.2.1) = true) (hl : lv_args 0 av = lv0) (h : sR L xs sio d me 100000 (0, lv0, [], t, 0, 0) = some r) : sC L xs sio (d + 1) mi av t = some r := by
  subst hl
  subst hp
  show ag_call av_O 8192 (sX L xs) (nm_E 0 (fun _ => 0) sio) nm_cn pg 100000 (d + 1) mi av t = some r
  unfold ag_call
  rw [if_pos (of_decide_eq_true hc)]
  exact h
/-- a step that calls and comes back with a value or none -/
theorem st_call {mi : Nat} {av rest : List Value} {v : Option Value} {k m : Nat} (hi : me.2.2.2.2.2 pc = some i) (hs : ∀ call : ag_Ca av_T, ag_step av_O 8192 (sX L xs) (nm_E 0 (fun _ => 0) sio) nm_cn (d + 1) call me i (pc, lv, st, t, nc, ns) = ag_back av_O 8192 (nm_E 0 (fun _ => 0) sio) me.2.2.2.2.1 pc lv rest nc ns (call mi av t))
    (hc : sC L xs sio d mi av t = some (.inl v, t', k, m)) (e1 : pc + 3 = pc') (e2 : v.toList ++ rest = st') (e3 : nc + k = nc') (e4 : ns + m = ns') : sR L xs sio d me (n + 1) (pc, lv, st, t, nc, ns) = sR L xs sio d me n (pc', lv, st', t', nc', ns') := by
  subst e1 e2 e3 e4
  exact st_go hi (by rw [show sS L xs sio d me i (pc, lv, st, t, nc, ns) = _ from hs (sC L xs sio d), hc]; rfl)
/-- .. with a throw that a row takes -/
theorem st_catch {mi : Nat} {av rest : List Value} {x k m : Nat} {c : am_C} (hi : me.2.2.2.2.2 pc = some i) (hs : ∀ call : ag_Ca av_T, ag_step av_O 8192 (sX L xs) (nm_E 0 (fun _ => 0) sio) nm_cn (d + 1) call me i (pc, lv, st, t, nc, ns) = ag_back av_O 8192 (nm_E 0 (fun _ => 0) sio) me.2.2.2.2.1 pc lv rest nc ns (call mi av t))
    (hc : sC L xs sio d mi av t = some (.inr x, t', k, m)) (hk : am_covered me.2.2.2.2.1 pc = true) (hf : am_find (nm_E 0 (fun _ => 0) sio) me.2.2.2.2.1 pc x = some pc') (hl : decide (t'.2 < 8192) = true) (he : (.inr ((nm_E 0 (fun _ => 0) sio).2.2.2.2.1 x, []) : am_C) = c) (e3 : nc + k = nc') (e4 : ns + m = ns') :
    sR L xs sio d me (n + 1) (pc, lv, st, t, nc, ns) = sR L xs sio d me n (pc', lv, [.ref t'.2], ((t'.2, c) :: t'.1, t'.2 + 1), nc', ns') := by
  subst e3 e4 he
  refine st_go hi ?_
  rw [show sS L xs sio d me i (pc, lv, st, t, nc, ns) = _ from hs (sC L xs sio d), hc]
  show (if am_covered me.2.2.2.2.1 pc = true then _ else _) = _
  rw [if_pos hk, hf]
  show (if t'.2 < 8192 then _ else _) = _
  rw [if_pos (of_decide_eq_true hl)]
  rfl
/-- .. with a throw that goes on -/
theorem st_pass {mi : Nat} {av rest : List Value} {x k m : Nat} (hi : me.2.2.2.2.2 pc = some i) (hs : ∀ call : ag_Ca av_T, ag_step av_O 8192 (sX L xs) (nm_E 0 (fun _ => 0) sio) nm_cn (d + 1) call me i (pc, lv, st, t, nc, ns) = ag_back av_O 8192 (nm_E 0 (fun _ => 0) sio) me.2.2.2.2.1 pc lv rest nc ns (call mi av t))
    (hc : sC L xs sio d mi av t = some (.inr x, t', k, m)) (hk : am_covered me.2.2.2.2.1 pc = false) (e3 : nc + k = nc') (e4 : ns + m = ns') : sR L xs sio d me (n + 1) (pc, lv, st, t, nc, ns) = some (.inr x, t', nc', ns') := by
  subst e3 e4
  refine st_end hi ?_
  rw [show sS L xs sio d me i (pc, lv, st, t, nc, ns) = _ from hs (sC L xs sio d), hc]
  show (if am_covered me.2.2.2.2.1 pc = true then _ else _) = _
  rw [hk]
  rfl
/-- branches of which a row says which way -/
theorem st_if {c : ClassFile.Cond} {off : Int} {x : Int32} {b : Bool} {len a9 b9 c9 : Nat} (hi : me.2.2.2.2.2 pc = some (.ifCond c off, len, a9, b9, c9)) (hb : am_c0 c x = b) (ht : (match b with | true => am_to pc off | false => (am_to pc off).map (fun _ => pc + 3)) = some pc') :
    sR L xs sio d me (n + 1) (pc, lv, .int x :: st, t, nc, ns) = sR L xs sio d me n (pc', lv, st, t, nc, ns) := by
  refine st_go hi ?_
  show ag_lift (am_br (am_c0 c x) pc off lv st) t nc ns = _
  rw [hb]
  unfold am_br
  cases b with
  | true =>
    have ht : am_to pc off = some pc' := ht
    rw [ht]
    rfl
  | false =>
    have ht : (am_to pc off).map (fun _ => pc + 3) = some pc' := ht
    cases hto : am_to pc off with
    | none => rw [hto] at ht; cases ht
    | some q => rw [hto] at ht; cases ht; rfl
theorem st_ic {c : ClassFile.Cond} {off : Int} {x y : Int32} {b : Bool} {len a9 b9 c9 : Nat} (hi : me.2.2.2.2.2 pc = some (.if_icmp c off, len, a9, b9, c9)) (hb : am_c2 c x y = b) (ht : (match b with | true => am_to pc off | false => (am_to pc off).map (fun _ => pc + 3)) = some pc') :
    sR L xs sio d me (n + 1) (pc, lv, .int y :: .int x :: st, t, nc, ns) = sR L xs sio d me n (pc', lv, st, t, nc, ns) := by
  refine st_go hi ?_
  show ag_lift (am_br (am_c2 c x y) pc off lv st) t nc ns = _
  rw [hb]
  unfold am_br
  cases b with
  | true =>
    have ht : am_to pc off = some pc' := ht
    rw [ht]
    rfl
  | false =>
    have ht : (am_to pc off).map (fun _ => pc + 3) = some pc' := ht
    cases hto : am_to pc off with
    | none => rw [hto] at ht; cases ht
    | some q => rw [hto] at ht; cases ht; rfl
theorem st_tab {df lo hi : Int} {offs : Array Int} {x : Int32} {len a9 b9 c9 : Nat} (hi9 : me.2.2.2.2.2 pc = some (.tableswitch df lo hi offs, len, a9, b9, c9)) (hb : x.toInt < lo ∨ hi < x.toInt) (ht : am_to pc df = some pc') :
    sR L xs sio d me (n + 1) (pc, lv, .int x :: st, t, nc, ns) = sR L xs sio d me n (pc', lv, st, t, nc, ns) := by
  refine st_go hi9 ?_
  show ag_lift (if x.toInt < lo ∨ hi < x.toInt then am_jump (am_to pc df) lv st else _) t nc ns = _
  rw [if_pos hb, ht]
  rfl
end SYM
