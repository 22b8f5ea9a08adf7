/-! ===== THE PURE MACHINE, part 8: calls ===== -/
section AMC
variable {p : Program} {l : Launch} {e : Env} {R R' : Room} {s : State} {m : MethodId} {args : Array Value} {below : List Frame} {meth : Method} {c : Code} {H : Heap} {locs : List Loc} {cells slots : Nat} {Q : State → Prop}
/-- a throw lies over the frame g -/
def am_T (p : Program) (l : Launch) (e : Env) (R : Room) (s : State) (m : MethodId) (args : Array Value) (below : List Frame) (meth : Method) (c : Code) (H : Heap) (locs : List Loc) (cells slots : Nat) (Q : State → Prop) (g : JFrame) (x : Addr) : Prop :=
  ∀ T : State, T.heap = H → Stand p l e R s m args below meth c T locs cells slots → ∃ t, Steps p.tables e below ((T.setTop g).pushFrame (.throwing x)) t ∧ Q t
/-- behind a call -/
def am_next (p : Program) (l : Launch) (e : Env) (R : Room) (s : State) (m : MethodId) (args : Array Value) (below : List Frame) (meth : Method) (c : Code) (H : Heap) (locs : List Loc) (cells slots : Nat) (Q : State → Prop) (pc : Nat) (ls : Array Slot) (rest : List Value) (o : Outcome) : Prop := match o with
  | .returned v => W p l e R s m args below meth c H locs cells slots Q (F0 m (pc + 3) ls (v.toList ++ rest))
  | .threw x => am_T p l e R s m args below meth c H locs cells slots Q (F0 m pc ls rest) x
variable {y : MethodName} {bytes cc : ByteArray} {maxL nL mc ms index pc : Nat} {ret : Option FieldType} {hh : List (Nat × Nat × Nat × Nat)} {Qc : Outcome → Heap → Vm → Prop} {free : Addr → Prop} {own C : String} {ls : Array Slot} {argsL rest st0 : List Value} {b : Addr}
theorem am_called {a : Array Value} {ig : Instr} (hb : c.code = cc) (hml : c.maxLocals = nL) (hsize : ls.size = nL) (hdg : decode cc pc = .ok (ig, 3)) (hW : (rest.map fun v => v.category).sum ≤ 8) (hy : plainFor y = true)
    (hstep : ∀ T : State, T.heap = H → Stand p l e R s m args below meth c T locs cells slots → ∃ (vm₁ : Vm) (mk : MethodId) (methk : Method) (ck : Code), Stand p l e R s m args below meth c (T.setVm vm₁) locs cells slots ∧ am_Is y bytes maxL ret hh (T.setVm vm₁) mk methk ck ∧
      ∀ target, (∀ acts, Steps p.tables e below (doInvoke e ((T.setVm vm₁).setTop (F0 m pc ls rest)) acts mk a).1 target) → Steps p.tables e below (T.setTop (F0 m pc ls st0)) target)
    (hfr : R'.frames + 1 ≤ R.frames) (hlo : 8 + (maxL + 11) + R'.locals ≤ R.locals) (hce : cells + R'.cells ≤ R.cells) (hsl : slots + R'.slots ≤ R.slots)
    (hcal : am_Callee p l e R' y bytes maxL ret hh s H a Qc mc ms free)
    (kk : ∀ (o : Outcome) (H1 : Heap) (vm1 : Vm) (L : List Loc), (∀ q ∈ L, free q.base) → Qc o H1 vm1 → s.WarmedH vm1 → am_next p l e R s m args below meth c H1 (locs ++ L) (cells + mc) (slots + ms) Q pc ls rest o) :
    W p l e R s m args below meth c H locs cells slots Q (F0 m pc ls st0) := by
  intro T hT X
  obtain ⟨vm₁, mk, methk, ck, X₁, hI, hst⟩ := hstep T hT X
  obtain ⟨o, T', L, X', hL, hq, hrun⟩ := am_enter (R' := R') X₁ (g := F0 m pc ls rest) rfl (hsize.trans hml.symm) (by rw [hb]; exact hdg) (lv_room hW) hy hI a hfr hlo hce hsl (by rw [show (T.setVm vm₁).heap = H from hT]; exact hcal)
  have hn := kk o T'.heap T'.vm L hL hq X'.warmed
  cases o with
  | returned v =>
    obtain ⟨t, a1, b1⟩ := hn T' rfl X'
    exact ⟨t, hst t (fun acts => (hrun acts).trans a1), b1⟩
  | threw x =>
    obtain ⟨t, a1, b1⟩ := hn T' rfl X'
    exact ⟨t, hst t (fun acts => (hrun acts).trans a1), b1⟩
/-- what is known of a method stays where the tables only warm -/
theorem am_Is.warm {T : State} {mk : MethodId} {methk : Method} {ck : Code} (hW : s.WarmedH T.vm) (h : am_Is y bytes maxL ret hh s mk methk ck) : am_Is y bytes maxL ret hh T mk methk ck := by
  obtain ⟨h1, h2, h3⟩ := h
  refine ⟨?_, ?_, h3⟩
  · show (s.setVm T.vm).methodNamed? y = some mk
    rw [State.methodNamed?_setVm hW.alike]
    exact h1
  · rw [hW.alike.method?]
    exact h2
theorem am_callV (hx : p.tables.exec = Jvm.exec) (hb : c.code = cc) (hml : c.maxLocals = nL) (hsize : ls.size = nL) (hown : s.vm.findClass own = some m.cls) (hy : y.cls ≠ "java/lang/invoke/MethodHandle" ∧ y.cls ≠ "java/lang/invoke/VarHandle") (hpf : plainFor y = true) (hlen : ∀ sig, parseMethodDescriptor y.desc = some sig → argsL.length = sig.parameters.length) (hW : (rest.map fun v => v.category).sum ≤ 8) (hlink : (Cond.methodLink own index y).before args s = true) (hinst : (Cond.instanceMethod y).before args s = true) (hsel : (Cond.selects C y y).before args s = true) (hcode : (Cond.code y bytes maxL ret).before args s = true)
    {cellB : Cell} (hcell : H[b]? = some cellB) (hobj : cellB.vm.isStatics = false) (hcls : s.vm.findClass C = some cellB.cls) (hdg : decode cc pc = .ok (.invokevirtual index, 3))
    (hfr : R'.frames + 1 ≤ R.frames) (hlo : 8 + (maxL + 11) + R'.locals ≤ R.locals) (hce : cells + R'.cells ≤ R.cells) (hsl : slots + R'.slots ≤ R.slots) (hcal : am_Callee p l e R' y bytes maxL ret [] s H (Value.ref b :: argsL).toArray Qc mc ms free)
    (kk : ∀ (o : Outcome) (H1 : Heap) (vm1 : Vm) (L : List Loc), (∀ q ∈ L, free q.base) → Qc o H1 vm1 → s.WarmedH vm1 → am_next p l e R s m args below meth c H1 (locs ++ L) (cells + mc) (slots + ms) Q pc ls rest o) : W p l e R s m args below meth c H locs cells slots Q (F0 m pc ls (argsL.reverse ++ .ref b :: rest)) := by
  refine am_called hb hml hsize hdg hW hpf (fun T hT X => ?_) hfr hlo hce hsl hcal kk
  obtain ⟨mk, methM, hnamed, hmethM, hstM, habM⟩ := Cond.instanceMethod_spec hinst
  obtain ⟨mk', methk, ck, hI⟩ := am_Is.of hcode
  obtain ⟨hn2, hm2, hr2⟩ := id hI
  cases hnamed.symm.trans hn2
  cases hmethM.symm.trans hm2
  obtain ⟨methM', cM, hmethM', -, -, -, -, -, -, hsigM⟩ := Cond.code_spec hnamed hcode
  cases hmethM.symm.trans hmethM'
  obtain ⟨c2, r2, m2, q1, q2, q3, q4, kP, hkP, hkPi⟩ := Cond.selects_spec hsel
  cases hcls.symm.trans q1
  cases (State.methodFound?_of_named hnamed hy).symm.trans q2
  cases hnamed.symm.trans q3
  have hselP : selectMethod e.platform s.vm cellB.cls mk = .method mk := by rw [Launch.admits_selectMethod X.admits]; exact q4
  obtain ⟨vm₁, X₁, hstep₁⟩ := X.invokevirtual hx hown hlink hnamed hmethM hstM hkP hkPi hy (a := b) (cell := cellB) (by rw [hT]; exact hcell)
    (fun z h => by rw [h] at hobj; cases hobj) hselP hmethM habM hkP hkPi (g := F0 m pc ls (argsL.reverse ++ .ref b :: rest)) rfl (argsL := argsL) (rest := rest) (hlen _ hsigM) rfl (by rw [hb]; exact hdg)
  exact ⟨vm₁, mk, methM, ck, X₁, hI.warm X₁.warmed, hstep₁⟩
theorem am_callS (hx : p.tables.exec = Jvm.exec) (hb : c.code = cc) (hml : c.maxLocals = nL) (hsize : ls.size = nL) (hown : s.vm.findClass own = some m.cls) (hy : y.cls ≠ "java/lang/invoke/MethodHandle" ∧ y.cls ≠ "java/lang/invoke/VarHandle") (hpf : plainFor y = true) (hlen : ∀ sig, parseMethodDescriptor y.desc = some sig → argsL.length = sig.parameters.length) (hW : (rest.map fun v => v.category).sum ≤ 8) (hlink : (Cond.methodLink own index y).before args s = true) (hstat : (Cond.static y).before args s = true) (hinit : (Cond.initialized y.cls).before args s = true) (hcode : (Cond.code y bytes maxL ret).before args s = true)
    (hdg : decode cc pc = .ok (.invokestatic index, 3))
    (hfr : R'.frames + 1 ≤ R.frames) (hlo : 8 + (maxL + 11) + R'.locals ≤ R.locals) (hce : cells + R'.cells ≤ R.cells) (hsl : slots + R'.slots ≤ R.slots) (hcal : am_Callee p l e R' y bytes maxL ret [] s H argsL.toArray Qc mc ms free)
    (kk : ∀ (o : Outcome) (H1 : Heap) (vm1 : Vm) (L : List Loc), (∀ q ∈ L, free q.base) → Qc o H1 vm1 → s.WarmedH vm1 → am_next p l e R s m args below meth c H1 (locs ++ L) (cells + mc) (slots + ms) Q pc ls rest o) : W p l e R s m args below meth c H locs cells slots Q (F0 m pc ls (argsL.reverse ++ rest)) := by
  refine am_called hb hml hsize hdg hW hpf (fun T hT X => ?_) hfr hlo hce hsl hcal kk
  obtain ⟨mk, methM, ck, hI⟩ := am_Is.of hcode
  obtain ⟨hnamed, hmethM, hr2⟩ := id hI
  obtain ⟨methM', cM, hmethM', -, -, -, -, -, -, hsigM⟩ := Cond.code_spec hnamed hcode
  cases hmethM.symm.trans hmethM'
  have hstatic : methM.isStatic = true := Cond.static_spec hnamed hmethM hstat
  obtain ⟨kP, hkP, -⟩ := className_of_methodNamed hnamed
  have hinitP : kP.init = .initialized := Cond.initialized_spec (findClass_of_methodNamed hnamed) hkP hinit
  obtain ⟨vm₁, X₁, hstep₁⟩ := X.invokestatic hx hown hlink hnamed hmethM hstatic hkP hinitP hy (g := F0 m pc ls (argsL.reverse ++ rest)) rfl (argsL := argsL) (rest := rest) (hlen _ hsigM) rfl (by rw [hb]; exact hdg)
  exact ⟨vm₁, mk, methM, ck, X₁, hI.warm X₁.warmed, hstep₁⟩
theorem am_callSN {host : String} (hx : p.tables.exec = Jvm.exec) (hb : c.code = cc) (hml : c.maxLocals = nL) (hsize : ls.size = nL) (hown : s.vm.findClass own = some m.cls) (hy : y.cls ≠ "java/lang/invoke/MethodHandle" ∧ y.cls ≠ "java/lang/invoke/VarHandle") (hpf : plainFor y = true) (hlen : ∀ sig, parseMethodDescriptor y.desc = some sig → argsL.length = sig.parameters.length) (hW : (rest.map fun v => v.category).sum ≤ 8) (hlink : (Cond.methodLinkNest own index y host).before args s = true) (hstat : (Cond.static y).before args s = true) (hinit : (Cond.initialized y.cls).before args s = true) (hcode : (Cond.code y bytes maxL ret).before args s = true)
    (hdg : decode cc pc = .ok (.invokestatic index, 3))
    (hfr : R'.frames + 1 ≤ R.frames) (hlo : 8 + (maxL + 11) + R'.locals ≤ R.locals) (hce : cells + R'.cells ≤ R.cells) (hsl : slots + R'.slots ≤ R.slots) (hcal : am_Callee p l e R' y bytes maxL ret [] s H argsL.toArray Qc mc ms free)
    (kk : ∀ (o : Outcome) (H1 : Heap) (vm1 : Vm) (L : List Loc), (∀ q ∈ L, free q.base) → Qc o H1 vm1 → s.WarmedH vm1 → am_next p l e R s m args below meth c H1 (locs ++ L) (cells + mc) (slots + ms) Q pc ls rest o) : W p l e R s m args below meth c H locs cells slots Q (F0 m pc ls (argsL.reverse ++ rest)) := by
  refine am_called hb hml hsize hdg hW hpf (fun T hT X => ?_) hfr hlo hce hsl hcal kk
  obtain ⟨mk, methM, ck, hI⟩ := am_Is.of hcode
  obtain ⟨hnamed, hmethM, hr2⟩ := id hI
  obtain ⟨methM', cM, hmethM', -, -, -, -, -, -, hsigM⟩ := Cond.code_spec hnamed hcode
  cases hmethM.symm.trans hmethM'
  have hstatic : methM.isStatic = true := Cond.static_spec hnamed hmethM hstat
  obtain ⟨kP, hkP, -⟩ := className_of_methodNamed hnamed
  have hinitP : kP.init = .initialized := Cond.initialized_spec (findClass_of_methodNamed hnamed) hkP hinit
  obtain ⟨vm₁, X₁, hstep₁⟩ := X.invokestaticNest hx hown hlink hnamed hmethM hstatic hkP hinitP hy (g := F0 m pc ls (argsL.reverse ++ rest)) rfl (argsL := argsL) (rest := rest) (hlen _ hsigM) rfl (by rw [hb]; exact hdg)
  exact ⟨vm₁, mk, methM, ck, X₁, hI.warm X₁.warmed, hstep₁⟩
theorem am_callSH (hx : p.tables.exec = Jvm.exec) (hb : c.code = cc) (hml : c.maxLocals = nL) (hsize : ls.size = nL) (hown : s.vm.findClass own = some m.cls) (hy : y.cls ≠ "java/lang/invoke/MethodHandle" ∧ y.cls ≠ "java/lang/invoke/VarHandle") (hpf : plainFor y = true) (hlen : ∀ sig, parseMethodDescriptor y.desc = some sig → argsL.length = sig.parameters.length) (hW : (rest.map fun v => v.category).sum ≤ 8) (hlink : (Cond.methodLink own index y).before args s = true) (hstat : (Cond.static y).before args s = true) (hinit : (Cond.initialized y.cls).before args s = true) (hcode : (Cond.codeWith y bytes maxL ret hh).before args s = true)
    (hdg : decode cc pc = .ok (.invokestatic index, 3))
    (hfr : R'.frames + 1 ≤ R.frames) (hlo : 8 + (maxL + 11) + R'.locals ≤ R.locals) (hce : cells + R'.cells ≤ R.cells) (hsl : slots + R'.slots ≤ R.slots) (hcal : am_Callee p l e R' y bytes maxL ret hh s H argsL.toArray Qc mc ms free)
    (kk : ∀ (o : Outcome) (H1 : Heap) (vm1 : Vm) (L : List Loc), (∀ q ∈ L, free q.base) → Qc o H1 vm1 → s.WarmedH vm1 → am_next p l e R s m args below meth c H1 (locs ++ L) (cells + mc) (slots + ms) Q pc ls rest o) : W p l e R s m args below meth c H locs cells slots Q (F0 m pc ls (argsL.reverse ++ rest)) := by
  refine am_called hb hml hsize hdg hW hpf (fun T hT X => ?_) hfr hlo hce hsl hcal kk
  obtain ⟨mk, methM, ck, hI⟩ := am_Is.ofH hcode
  obtain ⟨hnamed, hmethM, hr2⟩ := id hI
  obtain ⟨_, _, _, hnW, hmW, -, -, -, -, -, -, hsigM⟩ := Cond.codeWith_spec hcode
  cases hnamed.symm.trans hnW
  cases hmethM.symm.trans hmW
  have hstatic : methM.isStatic = true := Cond.static_spec hnamed hmethM hstat
  obtain ⟨kP, hkP, -⟩ := className_of_methodNamed hnamed
  have hinitP : kP.init = .initialized := Cond.initialized_spec (findClass_of_methodNamed hnamed) hkP hinit
  obtain ⟨vm₁, X₁, hstep₁⟩ := X.invokestatic hx hown hlink hnamed hmethM hstatic hkP hinitP hy (g := F0 m pc ls (argsL.reverse ++ rest)) rfl (argsL := argsL) (rest := rest) (hlen _ hsigM) rfl (by rw [hb]; exact hdg)
  exact ⟨vm₁, mk, methM, ck, X₁, hI.warm X₁.warmed, hstep₁⟩
theorem am_callI (hx : p.tables.exec = Jvm.exec) (hb : c.code = cc) (hml : c.maxLocals = nL) (hsize : ls.size = nL) (hown : s.vm.findClass own = some m.cls) (hy : y.cls ≠ "java/lang/invoke/MethodHandle" ∧ y.cls ≠ "java/lang/invoke/VarHandle") (hpf : plainFor y = true) (hlen : ∀ sig, parseMethodDescriptor y.desc = some sig → argsL.length = sig.parameters.length) (hW : (rest.map fun v => v.category).sum ≤ 8) (hy1 : y.name = "<init>") (hlink : (Cond.methodLink own index y).before args s = true) (hinst : (Cond.instanceMethod y).before args s = true) (hcode : (Cond.code y bytes maxL none).before args s = true)
    (hdg : decode cc pc = .ok (.invokespecial index, 3))
    (hfr : R'.frames + 1 ≤ R.frames) (hlo : 8 + (maxL + 11) + R'.locals ≤ R.locals) (hce : cells + R'.cells ≤ R.cells) (hsl : slots + R'.slots ≤ R.slots) (hcal : am_Callee p l e R' y bytes maxL none [] s H (Value.ref b :: argsL).toArray Qc mc ms free)
    (kk : ∀ (o : Outcome) (H1 : Heap) (vm1 : Vm) (L : List Loc), (∀ q ∈ L, free q.base) → Qc o H1 vm1 → s.WarmedH vm1 → am_next p l e R s m args below meth c H1 (locs ++ L) (cells + mc) (slots + ms) Q pc ls rest o) : W p l e R s m args below meth c H locs cells slots Q (F0 m pc ls (argsL.reverse ++ .ref b :: rest)) := by
  refine am_called hb hml hsize hdg hW hpf (fun T hT X => ?_) hfr hlo hce hsl hcal kk
  have hpl : e.platform.magicAccessors = ({} : Platform).magicAccessors := by rw [X.admits.platform]
  obtain ⟨mk', methk, ck, hI⟩ := am_Is.of hcode
  obtain ⟨hn2, hm2, hr2⟩ := id hI
  obtain ⟨mk, methM, cM, kP, vm₁, hnamed, hmethM, hcodeM, -, hlocalsM, -, hkP, -, hW₁, hstep₁⟩ := Steps.initColdArgs (e := e) X.here hx X.warmed hpl hown hy1 hy hlink hinst hcode (f := F0 m pc ls (argsL.reverse ++ .ref b :: rest)) rfl hlen rfl (by rw [hb]; exact hdg)
  cases hnamed.symm.trans hn2
  exact ⟨vm₁, _, methk, ck, X.noted hW₁, hI.warm (X.noted hW₁).warmed, hstep₁⟩
theorem am_callIN {host : String} (hx : p.tables.exec = Jvm.exec) (hb : c.code = cc) (hml : c.maxLocals = nL) (hsize : ls.size = nL) (hown : s.vm.findClass own = some m.cls) (hy : y.cls ≠ "java/lang/invoke/MethodHandle" ∧ y.cls ≠ "java/lang/invoke/VarHandle") (hpf : plainFor y = true) (hlen : ∀ sig, parseMethodDescriptor y.desc = some sig → argsL.length = sig.parameters.length) (hW : (rest.map fun v => v.category).sum ≤ 8) (hy1 : y.name = "<init>") (hlink : (Cond.methodLinkNest own index y host).before args s = true) (hinst : (Cond.instanceMethod y).before args s = true) (hcode : (Cond.code y bytes maxL none).before args s = true)
    (hdg : decode cc pc = .ok (.invokespecial index, 3))
    (hfr : R'.frames + 1 ≤ R.frames) (hlo : 8 + (maxL + 11) + R'.locals ≤ R.locals) (hce : cells + R'.cells ≤ R.cells) (hsl : slots + R'.slots ≤ R.slots) (hcal : am_Callee p l e R' y bytes maxL none [] s H (Value.ref b :: argsL).toArray Qc mc ms free)
    (kk : ∀ (o : Outcome) (H1 : Heap) (vm1 : Vm) (L : List Loc), (∀ q ∈ L, free q.base) → Qc o H1 vm1 → s.WarmedH vm1 → am_next p l e R s m args below meth c H1 (locs ++ L) (cells + mc) (slots + ms) Q pc ls rest o) : W p l e R s m args below meth c H locs cells slots Q (F0 m pc ls (argsL.reverse ++ .ref b :: rest)) := by
  refine am_called hb hml hsize hdg hW hpf (fun T hT X => ?_) hfr hlo hce hsl hcal kk
  have hpl : e.platform.magicAccessors = ({} : Platform).magicAccessors := by rw [X.admits.platform]
  obtain ⟨mk', methk, ck, hI⟩ := am_Is.of hcode
  obtain ⟨hn2, hm2, hr2⟩ := id hI
  obtain ⟨mk, methM, cM, kP, vm₁, hnamed, hmethM, hcodeM, -, hlocalsM, -, hkP, -, hW₁, hstep₁⟩ := Steps.initColdArgsNest (e := e) X.here hx X.warmed hpl hown hy1 hy hlink hinst hcode (f := F0 m pc ls (argsL.reverse ++ .ref b :: rest)) rfl hlen rfl (by rw [hb]; exact hdg)
  cases hnamed.symm.trans hn2
  exact ⟨vm₁, _, methk, ck, X.noted hW₁, hI.warm (X.noted hW₁).warmed, hstep₁⟩
end AMC
