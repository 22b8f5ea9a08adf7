section MS6
variable {w : wX} {D : Nat} {me : am_M} {Q : ag_Re af_T → Prop} {pc nc ns N : Nat} {lv : List (Nat × Value)} {st : List Value} {t : af_T}
theorem T_tsd (pt : Nat) {dflt lo hi x : Int} {offs : Array Int} {len p q r : Nat} (hi' : me.2.2.2.2.2 pc = some (.tableswitch dflt lo hi offs, len, p, q, r)) (ht : am_to pc dflt = some pt) (hx : R32 x) (hr : x < lo ∨ hi < x) (h : TT w D me (pt, lv, st, t, nc, ns) Q) : TT w D me (pc, lv, .int (i32 x) :: st, t, nc, ns) Q := by
  refine Tm_step hi' (fun call => ?_) h
  show ag_lift (if (i32 x).toInt < lo ∨ hi < (i32 x).toInt then am_jump (am_to pc dflt) lv st else _) t nc ns = _
  rw [i32_to hx, if_pos hr, ht]
  rfl
theorem T_lkd (pt : Nat) {dflt x : Int} {ps : Array (Int × Int)} {len p q r : Nat} (hi' : me.2.2.2.2.2 pc = some (.lookupswitch dflt ps, len, p, q, r)) (ht : am_to pc dflt = some pt) (hx : R32 x) (ho : Op.lookupswitch.offset ps.toList dflt x = dflt) (h : TT w D me (pt, lv, st, t, nc, ns) Q) : TT w D me (pc, lv, .int (i32 x) :: st, t, nc, ns) Q := by
  refine Tm_step hi' (fun call => ?_) h
  show ag_lift (am_jump (am_to pc (Op.lookupswitch.offset ps.toList dflt (i32 x).toInt)) lv st) t nc ns = _
  rw [i32_to hx, ho, ht]
  rfl
end MS6
theorem T_lnm {w : wX} {D : Nat} {me : am_M} {Q : ag_Re af_T → Prop} {pc nc ns : Nat} {lv : List (Nat × Value)} {st : List Value} {t : af_T} {x : Int} (h : ∀ z, R64 z → TT w D me (pc, lv, .long (i64 z) :: st, t, nc, ns) Q) : TT w D me (pc, lv, .long (i64 x) :: st, t, nc, ns) Q := by
  obtain ⟨z, hz, e⟩ := i64_ex (i64 x)
  exact Tm_el e.symm (h z hz)
