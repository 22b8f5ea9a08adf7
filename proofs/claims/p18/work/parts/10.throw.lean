/-! ===== THE PURE MACHINE, part 10: throw new E("text") ===== -/
section AMX
variable {p : Program} {l : Launch} {e : Env} {R : Room} {s : State} {m : MethodId} {args : Array Value} {below : List Frame} {meth : Method} {c : Code} {T : State} {locs : List Loc} {cells slots : Nat}
/-- the state of the start with the heap of now -/
def am_now (s T : State) : State := { s with heap := T.heap, slotsUsed := T.slotsUsed }
theorem am_rebase (X : Stand p l e R s m args below meth c T locs cells slots) {R' : Room} (hf : R'.frames ≤ R.frames) (hl : R'.locals ≤ R.locals) (hc : cells + R'.cells ≤ R.cells) (hs : slots + R'.slots ≤ R.slots) :
    Stand p l e R' (am_now s T) m args below meth c T [] 0 0 := by
  refine ⟨X.admits, X.cas, X.clock, X.frames, ?_, X.hears, X.method, X.code, X.here, X.tail, X.warmed, X.limits, X.bytes, ?_⟩
  · have h := X.room
    have h1 := X.heapSize
    have h2 := X.used
    have h3 : (am_now s T).slotsTrue = true := X.book
    simp only [State.hasRoom, Bool.and_eq_true, decide_eq_true_eq] at h ⊢
    have e1 : (am_now s T).localsInUse = s.localsInUse := rfl
    have e2 : (am_now s T).frames = s.frames := rfl
    have e3 : (am_now s T).me = s.me := rfl
    have e4 : (am_now s T).heap.size = T.heap.size := rfl
    have e5 : (am_now s T).slotsUsed = T.slotsUsed := rfl
    rw [e1, e2, e3, e4, e5]
    exact ⟨⟨⟨⟨by omega, by omega, by omega, by omega, by omega, h.1.1.1.2.2.2.2.2⟩, by omega⟩, by omega⟩, h3⟩
  · refine ⟨?_, Nat.le_refl _, Nat.le_refl _, ?_, ?_, ?_⟩
    · have h := X.same.1
      exact h
    · show T.slotsUsed = T.slotsUsed + ((T.heap.toList.drop T.heap.size).map (·.slots.size)).sum
      rw [List.drop_of_length_le (by simp)]
      rfl
    · show ((T.heap.toList.drop T.heap.size).map (·.slots.size)).sum ≤ 0
      rw [List.drop_of_length_le (by simp)]
      exact Nat.le_refl 0
    · intro a cell hcell
      exact ⟨cell, hcell, rfl, rfl, fun _ _ => rfl⟩
theorem am_now_same (X : Stand p l e R s m args below meth c T locs cells slots) {U : State} {k n : Nat} (h : (am_now s T).sameButNew ({ U with vm := s.vm } : State) [] k n) : s.sameButNew ({ U with vm := s.vm } : State) locs (cells + k) (slots + n) := by
  have h2 : (T.setVm s.vm).sameButNew ({ U with vm := s.vm } : State) [] k n := by
    obtain ⟨e1, r⟩ := h
    refine ⟨?_, r⟩
    have hs : T.setVm s.vm = { s.setFrames T.frames with heap := T.heap, slotsUsed := T.slotsUsed } := X.same.1
    have hF : ∀ F : List Frame, (T.setVm s.vm).setFrames F = { s.setFrames F with heap := T.heap, slotsUsed := T.slotsUsed } := fun F => by
      rw [hs]
      show ({ (s.setFrames T.frames).setFrames F with heap := T.heap, slotsUsed := T.slotsUsed } : State) = _
      rw [State.setFrames_setFrames]
    rw [hF]
    exact e1
  have h3 := X.same.trans h2
  rw [List.append_nil] at h3
  exact h3
/-- cells that were there stay as they were -/
theorem am_now_kept {U : State} {k n : Nat} (h : (am_now s T).sameButNew ({ U with vm := s.vm } : State) [] k n) {q : Nat} (hq : q < T.heap.size) : U.heap[q]? = T.heap[q]? := by
  obtain ⟨-, -, -, -, -, h6⟩ := h
  obtain ⟨cell, hcell⟩ : ∃ cell, T.heap[q]? = some cell := ⟨_, Array.getElem?_eq_getElem hq⟩
  obtain ⟨c', hc', he, hz, hi⟩ := h6 q cell hcell
  have hsl : c'.slots = cell.slots := Array.ext_getElem? fun i => hi i (fun z => nomatch z)
  rw [hcell]
  have hc2 : U.heap[q]? = some c' := hc'
  rw [hc2, he, hsl]
variable {H : Heap} {cc : ByteArray} {pc : Nat} {ls : Array Slot} {st : List Value}
theorem am_ldcwS {Q : State → Prop} {rest : List Value} (hx : p.tables.exec = Jvm.exec) (hb : c.code = cc) {own tx : String} {index q : Nat} (hown : s.vm.findClass own = some m.cls) (hZ : vk_R own index tx q s) (hdg : decode cc pc = .ok (.ldc_w index, 3))
    (kk : W p l e R s m args below meth c H locs cells slots Q (F0 m (pc + 3) ls (.ref q :: rest))) : W p l e R s m args below meth c H locs cells slots Q (F0 m pc ls rest) := by
  intro T hT X
  obtain ⟨t, a1, b1⟩ := kk T hT X
  refine ⟨t, ?_, b1⟩
  obtain ⟨k, cf, i, a', hk, hcf, hcp, -, hr, hev'⟩ := Cond.stringRef_spec hown hZ.1
  cases hZ.2.symm.trans hev'
  obtain ⟨k', hk', he⟩ := X.warmed.alike.2.2 _ _ hk
  have hr' : k'.resolved[index]? = some (some (.string q)) := by
    rcases X.warmed.entry hk hk' index with h | ⟨h, -⟩
    · rw [h]; exact hr
    · rw [h] at hr; cases hr
  jvm_step X.here [hx, hb, hdg, ldc_w.wp_string (e := e) (s := T) (f := F0 m pc ls rest) X.here.top hk' (by rw [he]; exact hcf) hcp hr']
  exact a1
set_option maxHeartbeats 1000000 in
theorem am_throw0 (hx : p.tables.exec = Jvm.exec) (hb : c.code = cc) (htr : l.stackTraces = false) (hlocks : meth.locks = false) {own cls text : String} {names : List String} {ik is ic sa : Nat}
    (d0 : decode cc pc = .ok (.new ik, 3)) (d3 : decode cc (pc + 3) = .ok (.dup, 1)) {kx : Nat} (d4 : (decode cc (pc + 4) = .ok (.ldc is, 2) ∧ kx = 2) ∨ (decode cc (pc + 4) = .ok (.ldc_w is, 3) ∧ kx = 3)) (d6 : decode cc (pc + 4 + kx) = .ok (.invokespecial ic, 3)) (d9 : decode cc (pc + 4 + kx + 3) = .ok (.athrow, 1)) (hout : ∀ x ∈ c.exceptionTable.toList, covers x (pc + 4 + kx + 3) = false)
    (hown : s.vm.findClass own = some m.cls) (hcls : Bundle.fit cls = true) (hnames : ∀ n ∈ names, Bundle.fit n = true) (hat : ∀ w ∈ Bundle.ownAtoms own ic cls names, w.before args s = true)
    (hcl : (Cond.classLink own ik cls).before args s = true) (hini : (Cond.initialized cls).before args s = true) (hZ : vk_R own is text sa s)
    (hsz : H.size = s.heap.size) (hml : ls.size = c.maxLocals) (hst : (st.map fun v => v.category).sum ≤ 8)
    (hRf : names.length + 3 < R.frames) (hRl : 13 * (names.length + 1) + 51 ≤ R.locals) (hRc : 1 ≤ R.cells) (hRs : 6 ≤ R.slots) :
    W p l e R s m args below meth c H [] 0 0 (fun U => U.status = .running ∧ ∃ x : Addr, Ended U below (.threw x) ∧ s.WarmedH U.vm ∧ s.sameButNew ({ U with vm := s.vm } : State) [] 1 6 ∧ s.heap.size ≤ x ∧ ∃ ce : Cell, U.heap[x]? = some ce ∧ ce.vm = .none ∧ s.vm.findClass cls = some ce.cls) (F0 m pc ls st) := by
  have hinst := hat (.instantiable cls 6) (by simp [Bundle.ownAtoms])
  obtain ⟨cX, kX, hfX, hkX, -, -, -, hn6⟩ := Cond.instantiable_spec hinst
  refine W.newcK hx hb hown hcl hinst hini rfl d0 (by omega) (by omega) hfX rfl fun H1 kC hkC e1 z1 o1 => ?_
  refine lv_dup hx hb d3 rfl ?_
  have go : ∀ {Q : State → Prop} {st2 : List Value}, W p l e R s m args below meth c H1 [] (0 + 1) (0 + 6) Q (F0 m (pc + 4 + kx) ls (.ref sa :: st2)) → W p l e R s m args below meth c H1 [] (0 + 1) (0 + 6) Q (F0 m (pc + 4) ls st2) := fun k => by
    rcases d4 with ⟨d4, rfl⟩ | ⟨d4, rfl⟩
    · exact va_ldcS hx hb hown hZ d4 k
    · exact am_ldcwS hx hb hown hZ d4 k
  refine go ?_
  intro T1 hT1 X1
  obtain ⟨U, hsteps, hrun, hend, hW, hsame, ce, hce, K⟩ := X1.ctorThrowS hx (by rw [X1.admits.platform]; exact htr) (own := own) (cls := cls) (names := names) (ic := ic) hown hcls hnames hat (fun y hy => nomatch hy) hfX hkC (a := H.size) (by rw [hT1]; exact e1) (by rw [hsz]; exact Nat.le_refl _) (msg := .ref sa) rfl
    (g := F0 m (pc + 4 + kx) ls (.ref sa :: .ref H.size :: .ref H.size :: st)) rfl hml rfl rfl (rest := st) rfl (by rw [hb]; exact d6) (by rw [hb]; exact d9) hout hRf (by
      show 2 * 0 + ((Value.ref H.size :: st).map fun v => v.category).sum + (13 * (names.length + 1) + 42) ≤ R.locals
      rw [List.map_cons, List.sum_cons]
      have : (Value.ref H.size).category = 1 := rfl
      omega) hlocks
  exact ⟨U, hsteps, hrun, H.size, hend, hW, hsame, by rw [hsz]; exact Nat.le_refl _, ce, hce, K.vm, K.cls⟩
/-- the words of a throw: carried by the tables, but for the two statics of Throwable -/
def am_xw (w : Cond) : Prop := am_carry w = true ∨ w = .isRef (.static Bundle.tN "UNASSIGNED_STACK" Bundle.steD) ∨ w = .isRef (.static Bundle.tN "SUPPRESSED_SENTINEL" Bundle.listD) ∨ w = .laysStatic Bundle.tN "UNASSIGNED_STACK" Bundle.steD ∨ w = .laysStatic Bundle.tN "SUPPRESSED_SENTINEL" Bundle.listD
theorem am_throwS {A : Nat → Prop} {H0 : Heap} {Qc : Outcome → Heap → Vm → Prop} {free : Addr → Prop} (hx : p.tables.exec = Jvm.exec) (hb : c.code = cc) (htr : l.stackTraces = false) (hlocks : meth.locks = false) {own cls text : String} {names : List String} {ik is ic sa : Nat}
    (d0 : decode cc pc = .ok (.new ik, 3)) (d3 : decode cc (pc + 3) = .ok (.dup, 1)) {kx : Nat} (d4 : (decode cc (pc + 4) = .ok (.ldc is, 2) ∧ kx = 2) ∨ (decode cc (pc + 4) = .ok (.ldc_w is, 3) ∧ kx = 3)) (d6 : decode cc (pc + 4 + kx) = .ok (.invokespecial ic, 3)) (d9 : decode cc (pc + 4 + kx + 3) = .ok (.athrow, 1)) (hout : ∀ x ∈ c.exceptionTable.toList, covers x (pc + 4 + kx + 3) = false)
    (hown : s.vm.findClass own = some m.cls) (hcls : Bundle.fit cls = true) (hnames : ∀ n ∈ names, Bundle.fit n = true) (hsplit : ∀ w ∈ Bundle.ownAtoms own ic cls names, am_xw w) (hat : ∀ w ∈ Bundle.ownAtoms own ic cls names, am_carry w = true → w.before args s = true)
    (hcl : (Cond.classLink own ik cls).before args s = true) (hini : (Cond.initialized cls).before args s = true) (hZ : vk_R own is text sa s)
    (hU : am_LS Bundle.tN "UNASSIGNED_STACK" Bundle.steD A s H0) (hV : am_LS Bundle.tN "SUPPRESSED_SENTINEL" Bundle.listD A s H0) (hS : va_S A H0 H locs)
    (hml : ls.size = c.maxLocals) (hst : (st.map fun v => v.category).sum ≤ 8)
    (hRf : names.length + 3 < R.frames) (hRl : 13 * (names.length + 1) + 51 ≤ R.locals) (hRc : cells + 1 ≤ R.cells) (hRs : slots + 6 ≤ R.slots)
    (hf : ∀ q ∈ locs, free q.base)
    (hq : ∀ (x : Addr) (H1 : Heap) (vm1 : Vm) (ce : Cell), s.WarmedH vm1 → (∀ q, q < H.size → H1[q]? = H[q]?) → H.size ≤ H1.size → H.size ≤ x → H1[x]? = some ce → ce.vm = .none → s.vm.findClass cls = some ce.cls → Qc (.threw x) H1 vm1) :
    W p l e R s m args below meth c H locs cells slots (am_MQ below Qc s (cells + 1) (slots + 6) free) (F0 m pc ls st) := by
  intro T hT X
  have Y := am_rebase X (R' := { frames := R.frames, cells := 1, slots := 6, locals := R.locals }) (Nat.le_refl _) (Nat.le_refl _) hRc hRs
  have hcar : ∀ w : Cond, am_carry w = true → w.before args s = true → w.before args (am_now s T) = true := fun w hc h => am_carried hc (show s.WarmedH (am_now s T).vm from State.WarmedH.refl s) h
  have hU' : am_LS Bundle.tN "UNASSIGNED_STACK" Bundle.steD A (am_now s T) (am_now s T).heap := am_LS.moved (u := s) (U := am_now s T) (Vm.Alike.refl s.vm) (hU.kept (fun a h1 h2 => by show T.heap[a]? = _; rw [hT]; exact hS.2.1 a h1 h2))
  have hV' : am_LS Bundle.tN "SUPPRESSED_SENTINEL" Bundle.listD A (am_now s T) (am_now s T).heap := am_LS.moved (u := s) (U := am_now s T) (Vm.Alike.refl s.vm) (hV.kept (fun a h1 h2 => by show T.heap[a]? = _; rw [hT]; exact hS.2.1 a h1 h2))
  have hat' : ∀ w ∈ Bundle.ownAtoms own ic cls names, w.before args (am_now s T) = true := fun w hw => by
    rcases hsplit w hw with h | rfl | rfl | rfl | rfl
    · exact hcar w h (hat w hw h)
    · exact hU'.isRef
    · exact hV'.isRef
    · exact hU'.lays
    · exact hV'.lays
  obtain ⟨U, hsteps, hrun, x, hend, hW, hsame, hxz, ce, hce, hcv, hcc⟩ := am_throw0 (s := am_now s T) (H := H) (R := { frames := R.frames, cells := 1, slots := 6, locals := R.locals }) hx hb htr hlocks d0 d3 d4 d6 d9 hout hown hcls hnames hat' (hcar _ rfl hcl) (hcar _ rfl hini) (hZ.same rfl) (by rw [← hT]; rfl) hml hst hRf hRl (Nat.le_refl 1) (Nat.le_refl 6) T hT Y
  have hkeep : ∀ q, q < H.size → U.heap[q]? = H[q]? := fun q hlt => by
    rw [← hT] at hlt ⊢
    exact am_now_kept hsame hlt
  have hsz : H.size ≤ U.heap.size := by
    have := hsame.2.1
    rw [← hT]
    exact this
  have hxs : H.size ≤ x := by rw [← hT]; exact hxz
  exact ⟨U, hsteps, .threw x, hrun, hend, hq x U.heap U.vm ce hW hkeep hsz hxs hce hcv hcc, locs, hW, am_now_same X hsame, hf⟩
end AMX
