/-! ===== longs that the law computes: what they are ===== -/
section LHE
variable {w : wX} {D : Nat} {me : am_M} {Q : ag_Re af_T → Prop} {pc nc ns : Nat} {lv : List (Nat × Value)} {st : List Value} {t : af_T} {i : am_I}
theorem T_lhe (pc' : Nat) (v : Int64) {st' : List Value} (hi : me.2.2.2.2.2 pc = some i) (hs : ∀ call, ag_step af_O 8192 w.1 (nm_E w.2.1 w.2.2.1 w.2.2.2) nm_cn (D + 1) call me i (pc, lv, st', t, nc, ns) = some (.inl (pc', lv, .long v :: st, t, nc, ns))) (h : ∀ z, R64 z → i64 z = v → TT w D me (pc', lv, .long (i64 z) :: st, t, nc, ns) Q) : TT w D me (pc, lv, st', t, nc, ns) Q := by
  obtain ⟨z, hz, e⟩ := i64_ex v
  exact Tm_step hi hs (Tm_el e.symm (h z hz e.symm))
theorem T_lhs (pc' : Nat) (v : Int64) {z : Int} (hz : i64 z = v) {st' : List Value} (hi : me.2.2.2.2.2 pc = some i) (hs : ∀ call, ag_step af_O 8192 w.1 (nm_E w.2.1 w.2.2.1 w.2.2.2) nm_cn (D + 1) call me i (pc, lv, st', t, nc, ns) = some (.inl (pc', lv, .long v :: st, t, nc, ns))) (h : TT w D me (pc', lv, .long (i64 z) :: st, t, nc, ns) Q) : TT w D me (pc, lv, st', t, nc, ns) Q := Tm_step hi hs (Tm_el hz h)
end LHE
