/-! ===== THE PURE MACHINE, part 10: throw new E("text") ===== -/
section AMX
variable {p : Program} {l : Launch} {e : Env} {R : Room} {s : State} {m : MethodId} {args : Array Value} {below : List Frame} {meth : Method} {c : Code} {T : State} {locs : List Loc} {cells slots : Nat}
/-- the state of the start with the heap of now -/
def am_now (s T : State) : State := { s with heap := T.heap, slotsUsed := T.slotsUsed }
theorem am_rebase (X : Stand p l e R s m args below meth c T locs cells slots) {R' : Room} (hf : R'.frames ≤ R.frames) (hl : R'.locals ≤ R.locals) (hc : cells + R'.cells ≤ R.cells) (hs : slots + R'.slots ≤ R.slots) :
    Stand p l e R' (am_now s T) m args below meth c T [] 0 0 := by
  refine ⟨X.admits, X.cas, X.clock, X.frames, ?_, X.hears, X.method, X.code, X.here, X.tail, X.warmed, X.limits, X.bytes, ?_⟩
  · have h := X.room
    have h1 := X.heapSize
    have h2 := X.used
    have h3 : (am_now s T).slotsTrue = true := X.book
    simp only [State.hasRoom, Bool.and_eq_true, decide_eq_true_eq] at h ⊢
    have e1 : (am_now s T).localsInUse = s.localsInUse := rfl
    have e2 : (am_now s T).frames = s.frames := rfl
    have e3 : (am_now s T).me = s.me := rfl
    have e4 : (am_now s T).heap.size = T.heap.size := rfl
    have e5 : (am_now s T).slotsUsed = T.slotsUsed := rfl
    rw [e1, e2, e3, e4, e5]
    exact ⟨⟨⟨⟨by omega, by omega, by omega, by omega, by omega, h.1.1.1.2.2.2.2.2⟩, by omega⟩, by omega⟩, h3⟩
  · refine ⟨?_, Nat.le_refl _, Nat.le_refl _, ?_, ?_, ?_⟩
    · have h := X.same.1
      exact h
    · show T.slotsUsed = T.slotsUsed + ((T.heap.toList.drop T.heap.size).map (·.slots.size)).sum
      rw [List.drop_of_length_le (by simp)]
      rfl
    · show ((T.heap.toList.drop T.heap.size).map (·.slots.size)).sum ≤ 0
      rw [List.drop_of_length_le (by simp)]
      exact Nat.le_refl 0
    · intro a cell hcell
      exact ⟨cell, hcell, rfl, rfl, fun _ _ => rfl⟩
end AMX
