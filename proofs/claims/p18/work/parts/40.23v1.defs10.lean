theorem T_inm {w : wX} {D : Nat} {me : am_M} {Q : ag_Re af_T → Prop} {pc nc ns : Nat} {lv : List (Nat × Value)} {st : List Value} {t : af_T} {x : Int} (h : ∀ z, R32 z → TT w D me (pc, lv, .int (i32 z) :: st, t, nc, ns) Q) : TT w D me (pc, lv, .int (i32 x) :: st, t, nc, ns) Q := by
  obtain ⟨z, hz, e⟩ := i32_ex (i32 x)
  rw [e]
  exact h z hz
