/-! ===== THE PURE MACHINE, part 7: into a method and out of it, by a value or by a throw ===== -/
/-- a method's end: what it answered or threw, the heap behind it; at most mc cells of ms slots came, only slots of cells that 'free' names were written -/
def am_MQ (below : List Frame) (Qc : Outcome → Heap → Vm → Prop) (s : State) (mc ms : Nat) (free : Addr → Prop) : State → Prop := fun t =>
  ∃ o, t.status = .running ∧ Ended t below o ∧ Qc o t.heap t.vm ∧ ∃ L : List Loc, s.WarmedH t.vm ∧ s.sameButNew ({ t with vm := s.vm } : State) L mc ms ∧ ∀ q ∈ L, free q.base
/-- what is known of a method at a state -/
def am_Is (y : MethodName) (bytes : ByteArray) (maxL : Nat) (ret : Option FieldType) (hh : List (Nat × Nat × Nat × Nat)) (s : State) (mk : MethodId) (methk : Method) (ck : Code) : Prop :=
  s.methodNamed? y = some mk ∧ s.vm.method? mk = some methk ∧ methk.code = some ck ∧ ck.code = bytes ∧ ck.maxLocals = maxL ∧ methk.sig.returnType = ret ∧ methk.locks = false ∧ ck.exceptionTable.toList.map (fun h => (h.startPc, h.endPc, h.handlerPc, h.catchType)) = hh
theorem am_Is.of {y : MethodName} {bytes : ByteArray} {maxL : Nat} {ret : Option FieldType} {args : Array Value} {s : State} (h : (Cond.code y bytes maxL ret).before args s = true) : ∃ mk methk ck, am_Is y bytes maxL ret [] s mk methk ck := by
  obtain ⟨mk, hn⟩ := Cond.code_named h
  obtain ⟨methk, ck, h1, h2, h3, h4, h5, h6, h7, -⟩ := Cond.code_spec hn h
  refine ⟨mk, methk, ck, hn, h1, h2, h3, h4, h5, h6, ?_⟩
  rw [show ck.exceptionTable.toList = [] from by simpa using h7]
  rfl
theorem am_Is.ofH {y : MethodName} {bytes : ByteArray} {maxL : Nat} {ret : Option FieldType} {hh : List (Nat × Nat × Nat × Nat)} {args : Array Value} {s : State} (h : (Cond.codeWith y bytes maxL ret hh).before args s = true) : ∃ mk methk ck, am_Is y bytes maxL ret hh s mk methk ck := by
  obtain ⟨mk, methk, ck, hn, h1, h2, h3, h4, h5, h6, h7, -⟩ := Cond.codeWith_spec h
  exact ⟨mk, methk, ck, hn, h1, h2, h3, h4, h6, h7, h5⟩
/-- behind a call: the caller's frame goes on, or the throw lies over it -/
def am_after (T : State) (g : JFrame) (len : Nat) (o : Outcome) : State := match o with
  | .returned v => T.setTop { g with pc := g.pc + len, stack := v.toList ++ g.stack }
  | .threw x => (T.setTop g).pushFrame (.throwing x)
theorem am_after_heap (T : State) (g : JFrame) (len : Nat) (o : Outcome) : (am_after T g len o).heap = T.heap := by
  cases o
  · simp [am_after, State.setTop, State.modifyTopJava]
  · exact Stand.throwing_heap T g _
theorem am_after_vm (T : State) (g : JFrame) (len : Nat) (o : Outcome) : (am_after T g len o).vm = T.vm := by
  cases o
  · simp [am_after, State.setTop, State.modifyTopJava]
  · exact Stand.throwing_vm T g _
theorem am_weaken {tb : Tables} {e : Env} {f : Frame} {below : List Frame} {a b : State} (h : Steps tb e (f :: below) a b) : Steps tb e below a b := by
  obtain ⟨n, hn, hw⟩ := h
  exact ⟨n, hn, fun k hk => (show Within _ ([f] ++ below) from hw k hk).weaken⟩
section AME
variable {p : Program} {l : Launch} {e : Env} {R R' : Room} {s : State} {m : MethodId} {args : Array Value} {below : List Frame} {meth : Method} {c : Code} {T : State} {locs : List Loc} {cells slots : Nat} {Q : State → Prop}
/-- a callee: from every start that is as the caller's state is, it ends as Qc says -/
abbrev am_Callee (p : Program) (l : Launch) (e : Env) (R' : Room) (y : MethodName) (bytes : ByteArray) (maxL : Nat) (ret : Option FieldType) (hh : List (Nat × Nat × Nat × Nat)) (s : State) (H : Heap) (a : Array Value) (Qc : Outcome → Heap → Vm → Prop) (mc ms : Nat) (free : Addr → Prop) : Prop :=
  ∀ (s' : State) (mk : MethodId) (below' : List Frame) (methk : Method) (ck : Code), s.WarmedH s'.vm → s'.heap = H → am_Is y bytes maxL ret hh s' mk methk ck →
    W p l e R' s' mk a below' methk ck H [] 0 0 (am_MQ below' Qc s' mc ms free) (entryFrame mk a maxL)
theorem am_enter (X : Stand p l e R s m args below meth c T locs cells slots) {g : JFrame} (hg : g.method = m) (hsize : g.locals.size = c.maxLocals) {ig : Instr} {len : Nat} (hdg : decode c.code g.pc = .ok (ig, len)) (hW : 2 * g.monitorRoom + (g.stack.map fun v => v.category).sum ≤ 8)
    {y : MethodName} {bytes : ByteArray} {maxL : Nat} {ret : Option FieldType} {hh : List (Nat × Nat × Nat × Nat)} {mk : MethodId} {methk : Method} {ck : Code} (hy : plainFor y = true) (hI : am_Is y bytes maxL ret hh T mk methk ck) (a : Array Value)
    (hfr : R'.frames + 1 ≤ R.frames) (hlo : 8 + (maxL + 11) + R'.locals ≤ R.locals) (hce : cells + R'.cells ≤ R.cells) (hsl : slots + R'.slots ≤ R.slots)
    {Qc : Outcome → Heap → Vm → Prop} {mc ms : Nat} {free : Addr → Prop} (hcal : am_Callee p l e R' y bytes maxL ret hh s T.heap a Qc mc ms free) :
    ∃ (o : Outcome) (T' : State) (L : List Loc), Stand p l e R s m args below meth c T' (locs ++ L) (cells + mc) (slots + ms) ∧ (∀ q ∈ L, free q.base) ∧ Qc o T'.heap T'.vm ∧
      ∀ acts, Steps p.tables e below (doInvoke e (T.setTop g) acts mk a).1 (am_after T' g len o) := by
  obtain ⟨hn, hm, hc, hb, hl, hr, hk, he⟩ := hI
  obtain ⟨Y, hinv⟩ := X.into hg hsize hdg a (R' := R') hm hc hk (State.plainMethod.of_named hy hn hm) hfr (by rw [hl]; omega) hce hsl
  obtain ⟨t, hst, o, hrun, hend, hq, L, hWt, hsame, hL⟩ := hcal (T.calling g mk a) mk (.java g :: below) methk ck X.warmed (by simp [State.calling, State.pushFrame, State.setFrames, State.setTop, State.modifyTopJava]) ⟨by simpa [State.calling, State.pushFrame, State.setFrames, State.setTop, State.modifyTopJava, State.methodNamed?] using hn, by simpa [State.calling, State.pushFrame, State.setFrames, State.setTop, State.modifyTopJava] using hm, hc, hb, hl, hr, hk, he⟩ _ (by simp [State.pushFrame, State.setFrames, State.setTop, State.modifyTopJava]) Y
  rw [hl] at hinv
  have hend' : Ended t (.java g :: below) o := hend
  cases o with
  | returned v =>
    obtain ⟨T', X', -, -, ht⟩ := X.outOf hg hdg hend' hWt hsame
    refine ⟨.returned v, T', L, X', hL, ?_, fun acts => ?_⟩
    · rw [ht] at hq
      simpa [State.setTop, State.modifyTopJava] using hq
    · rw [hinv acts]
      rw [ht, hl] at hst
      exact am_weaken hst
  | threw x =>
    obtain ⟨T', X', -, -, ht⟩ := X.outOfThrown hg hend' hWt hsame
    refine ⟨.threw x, T', L, X', hL, ?_, fun acts => ?_⟩
    · rw [ht, Stand.throwing_heap, Stand.throwing_vm] at hq
      exact hq
    · rw [hinv acts]
      rw [ht, hl] at hst
      exact am_weaken hst
end AME
