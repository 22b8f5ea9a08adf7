/-! THE CLAIM OUT OF ONE WALK OF THE LAW'S BODY. Your part is whole_start (and what it stands on); all else here is the same for every law, but numbers. -/
def R_law : String := "PacketWorksLaw"
def lw_P (b : Addr) (xs : List Int32) (args : Array Value) (s : State) : Prop := args = #[.ref b] ∧ s.IntsAt b xs ∧ xs.length ≤ 3072 ∧ (Jvm.Cond.and given_1 narrow_1).before args s = true
def lw_Q (_ : Array Value) (s : State) (o : Outcome) (t : State) : Prop := o = .returned (some (.int 1)) ∧ Framed s o t [] 601024 7293034
def lw_Z (below : List Frame) (a : Array Value) (s : State) : State → Prop := fun t => ∃ o, t.status = .running ∧ Ended t below o ∧ lw_Q a s o t
/-- the law's own end, with 1 on the stack, nothing written that was there before, its room as the claim has it -/
theorem lw_ret {p : Program} {l : Launch} {e : Env} {s : State} {m : MethodId} {below : List Frame} {meth : Method} {c : Code} {b : Nat} (hx : p.tables.exec = Jvm.exec) (hb : c.code = code) (hr : meth.sig.returnType = ret) (hlocks : meth.locks = false) {pc : Nat} {H : Heap} {ls : Array Slot} (hdg : decode code pc = .ok (.ireturn, 1)) : W p l e room_1 s m #[Value.ref b] below meth c H [] 601024 7293034 (lw_Z below #[Value.ref b] s) (F0 m pc ls [.int 1]) := by
  intro T hT X
  obtain ⟨fs, hret, hrun, hended, hW, hframe⟩ := X.leave (v := some (.int 1)) (hlocks := hlocks) (fun h => by rw [hr] at h; cases h)
  have hmeth' : T.vm.method? m = some meth := X.method'
  refine ⟨T.setFrames fs, ?_, .returned (some (.int 1)), hrun, hended, rfl, ⟨_, rfl⟩, hW, hframe⟩
  jvm_step X.here [X.here.top, hx, hb, hdg, hmeth', hr, ret, narrow_b1]
  (try refine ⟨rfl, ?_⟩); (try refine ⟨rfl, ?_⟩)
  first | (intro acts; rw [hret _ acts rfl rfl rfl]) | rw [hret _ _ rfl rfl rfl]
  exact Steps.refl _
/-- what holds at the law's entry: the machine, the code, the tables' words (any of lw_tbl by 'hts w (by decide +kernel)'), the script of L ints xs at the cell b, what the Statement gives of the start (any of its parts by flat_of_before) -/
def lw_At (p : Program) (s : State) (m : MethodId) (meth : Method) (c : Code) (b L : Nat) (xs : Nat → Int32) : Prop :=
  p.tables.exec = Jvm.exec ∧ c.code = code ∧ meth.sig.returnType = ret ∧ c.maxLocals = 8 ∧ s.vm.findClass R_law = some m.cls ∧ (∀ w ∈ lw_tbl, w.before #[Value.ref b] s = true) ∧ va_X b L xs s s.heap ∧ b < s.heap.size ∧ meth.locks = false ∧ (Jvm.Cond.and given_1 narrow_1).before #[Value.ref b] s = true
/-- a static that holds a reference or null -/
theorem ne_ref {args : Array Value} {s : State} {C n d : String} (h : (Cond.isRef (.static C n d)).before args s = true) : ∃ v, (Term.static C n d).eval args s none [] s = some v ∧ (v = .null ∨ ∃ a, v = .ref a) := by
  cases hv : (Term.static C n d).eval args s none [] s with
  | none => simp [Cond.before, Cond.holds, Cond.value, hv] at h
  | some w =>
    cases w with
    | null => exact ⟨_, rfl, Or.inl rfl⟩
    | ref a => exact ⟨_, rfl, Or.inr ⟨a, rfl⟩⟩
    | _ => simp [Cond.before, Cond.holds, Cond.value, hv] at h
theorem ne_LS {args : Array Value} {s : State} {C n d : String} {A : Nat → Prop} (hl : (Cond.laysStatic C n d).before args s = true) (h : (Cond.isRef (.static C n d)).before args s = true) (hA : ∀ a : Nat, a < s.heap.size → ¬ A a) : am_LS C n d A s s.heap := by
  obtain ⟨v, hv, hr⟩ := ne_ref h
  obtain ⟨c, k, i, f, a, cell, hc, hi, hst, ha, hcell, hs, hcls, hlt, hty⟩ := Cond.laysStatic_spec hl
  obtain ⟨hst', a', cell', ha', hcell', -, hslot⟩ := Term.static_spec hi hv
  cases ha.symm.trans ha'
  cases hcell.symm.trans hcell'
  refine ⟨c, k, i, f, a, cell, v, hc, hi, hst, ha, hcell, hs, hcls, hlt, hty, hslot, ?_, hA a (Array.getElem?_eq_some_iff.mp hcell).1⟩
  rcases hr with rfl | ⟨q, rfl⟩ <;> rfl
/-- where what stands outside lies -/
def ne_ad (b aS : Nat) (adK adV : Nat → Nat) : Nat → Nat := fun k => if k = 1000000 then b else if k = 2000000 then aS else if k % 2 = 1 then adK ((k - 1000001) / 2) else adV ((k - 1000002) / 2)
theorem ne_ad0 {b aS : Nat} {adK adV : Nat → Nat} : ne_ad b aS adK adV 1000000 = b := rfl
theorem ne_adS {b aS : Nat} {adK adV : Nat → Nat} : ne_ad b aS adK adV 2000000 = aS := rfl
theorem ne_adT {b aS i : Nat} {adK adV : Nat → Nat} (hi : i < 22) : ne_ad b aS adK adV (am_kT i) = adK i := by
  unfold ne_ad am_kT
  rw [if_neg (by omega), if_neg (by omega), if_pos (by omega), show (1000001 + 2 * i - 1000001) / 2 = i by omega]
theorem ne_adB {b aS i : Nat} {adK adV : Nat → Nat} (hi : i < 22) : ne_ad b aS adK adV (am_kB i) = adV i := by
  unfold ne_ad am_kB
  rw [if_neg (by omega), if_neg (by omega), if_neg (by omega), show (1000002 + 2 * i - 1000002) / 2 = i by omega]
theorem ne_refs : nm_refs.all (fun q => decide (q.2.2.2 < 22) && decide (ne_tm q.2.2.2 = .string q.1 q.2.1)) = true := by decide +kernel
def ne_sp : List Nat := [213, 1063, 1072, 1073, 1074, 1075, 1125, 1172, 1232, 1233, 1247, 1567, 1575, 1635, 1649, 1650, 1733, 1741, 1753, 1769, 1770, 1894]
theorem ne_sr : (List.range 22).all (fun i => match nm_refs[i]?, ne_sp[i]? with
  | some q, some j => decide (lw_tbl[j]? = some (Cond.stringRef q.1 q.2.1 q.2.2.1))
  | _, _ => false) = true := by decide +kernel
theorem ne_sref {q : String × Nat × String × Nat} (h : q ∈ nm_refs) : Cond.stringRef q.1 q.2.1 q.2.2.1 ∈ lw_tbl := by
  obtain ⟨i, hi⟩ := List.mem_iff_getElem?.mp h
  have hlt : i < 22 := (List.getElem?_eq_some_iff.mp hi).1
  have := List.all_eq_true.mp ne_sr i (List.mem_range.mpr hlt)
  rw [hi] at this
  cases hw : ne_sp[i]? with
  | none => rw [hw] at this; cases this
  | some w =>
    rw [hw] at this
    exact List.mem_of_getElem? (of_decide_eq_true this)
theorem ne_X {s : State} {b L aS : Nat} {xs : Nat → Int32} {adK adV : Nat → Nat} {v sio : Value} {A : Nat → Prop} (hts : ∀ w ∈ lw_tbl, w.before #[Value.ref b] s = true) (hX : va_X b L xs s s.heap) (hbl : b < s.heap.size) (hgv : (Jvm.Cond.and given_1 narrow_1).before #[Value.ref b] s = true) (hA : ∀ a : Nat, a < s.heap.size → ¬ A a)
    (hS : vk_S 22 nm_len nm_byt adK adV A s s.heap) (htm : ∀ i : Nat, i < 22 → (ne_tm i).eval #[Value.ref b] s none [] s = some (.ref (adK i)))
    (hv : (Term.static "jdk/internal/util/Preconditions" "SIOOBE_FORMATTER" "Ljava/util/function/BiFunction;").eval #[Value.ref b] s none [] s = some v) (he : am_v (ne_ad b aS adK adV) sio = v) : am_X L xs nm_len nm_byt nm_refs sio A (ne_ad b aS adK adV) s s.heap := by
  have hs := flat_of_before _ hgv
  refine ⟨⟨hX, hA b hbl⟩, fun i hi => ?_, fun q hq => ?_, ⟨?_, ?_⟩, ?_, ?_⟩
  · have hi : i < 22 := hi
    rw [ne_adT hi, ne_adB hi]
    exact hS.1 i hi
  · have hr := List.all_eq_true.mp ne_refs q hq
    rw [Bool.and_eq_true, decide_eq_true_eq, decide_eq_true_eq] at hr
    rw [ne_adT hr.1]
    have ht := htm _ hr.1
    rw [hr.2] at ht
    exact vk_R.of (hts _ (ne_sref hq)) ht
  · exact va_Zof (hts (.laysStatic "java/lang/String" "COMPACT_STRINGS" "Z") (List.mem_of_getElem? (i := 223) (by decide +kernel))) (hts (.initialized "java/lang/String") (List.mem_of_getElem? (i := 173) (by decide +kernel))) (va_eqi (hs (.eq (.static "java/lang/String" "COMPACT_STRINGS" "Z") (.int 1)) (by decide +kernel))) hA
  · rw [he]
    exact va_Zof (hts (.laysStatic "jdk/internal/util/Preconditions" "SIOOBE_FORMATTER" "Ljava/util/function/BiFunction;") (List.mem_of_getElem? (i := 239) (by decide +kernel))) (hts (.initialized "jdk/internal/util/Preconditions") (List.mem_of_getElem? (i := 175) (by decide +kernel))) hv hA
  · exact ne_LS (hts (.laysStatic "java/lang/Throwable" "UNASSIGNED_STACK" "[Ljava/lang/StackTraceElement;") (List.mem_of_getElem? (i := 1111) (by decide +kernel))) (hs (.isRef (.static "java/lang/Throwable" "UNASSIGNED_STACK" "[Ljava/lang/StackTraceElement;")) (by decide +kernel)) hA
  · exact ne_LS (hts (.laysStatic "java/lang/Throwable" "SUPPRESSED_SENTINEL" "Ljava/util/List;") (List.mem_of_getElem? (i := 1113) (by decide +kernel))) (hs (.isRef (.static "java/lang/Throwable" "SUPPRESSED_SENTINEL" "Ljava/util/List;")) (by decide +kernel)) hA
theorem ne_At {s : State} {b : Nat} {D : va_G} {cA : Nat → ClassId} (hts : ∀ w ∈ lw_tbl, w.before #[Value.ref b] s = true) (hgv : (Jvm.Cond.and given_1 narrow_1).before #[Value.ref b] s = true) (hK : va_K D nm_cl (am_tys cA) s) : am_At nm_K D cA s := by
  have hs := flat_of_before _ hgv
  refine ⟨fun w hw a => am_carried (List.mem_filter.mp hw).2 (State.WarmedH.refl s) (hts w (List.mem_filter.mp hw).1), hK, fun x y hx hy hxy => ?_⟩
  have h01 : va_Nc "java/lang/IllegalArgumentException" "java/lang/IllegalStateException" s := va_Nc.of (hs (.not (.castable "java/lang/IllegalArgumentException" "java/lang/IllegalStateException")) (by decide +kernel))
  have h02 : va_Nc "java/lang/IllegalArgumentException" "java/lang/IndexOutOfBoundsException" s := va_Nc.of (hs (.not (.castable "java/lang/IllegalArgumentException" "java/lang/IndexOutOfBoundsException")) (by decide +kernel))
  have h10 : va_Nc "java/lang/IllegalStateException" "java/lang/IllegalArgumentException" s := va_Nc.of (hs (.not (.castable "java/lang/IllegalStateException" "java/lang/IllegalArgumentException")) (by decide +kernel))
  have h12 : va_Nc "java/lang/IllegalStateException" "java/lang/IndexOutOfBoundsException" s := va_Nc.of (hs (.not (.castable "java/lang/IllegalStateException" "java/lang/IndexOutOfBoundsException")) (by decide +kernel))
  have h20 : va_Nc "java/lang/IndexOutOfBoundsException" "java/lang/IllegalArgumentException" s := va_Nc.of (hs (.not (.castable "java/lang/IndexOutOfBoundsException" "java/lang/IllegalArgumentException")) (by decide +kernel))
  have h21 : va_Nc "java/lang/IndexOutOfBoundsException" "java/lang/IllegalStateException" s := va_Nc.of (hs (.not (.castable "java/lang/IndexOutOfBoundsException" "java/lang/IllegalStateException")) (by decide +kernel))
  rcases x with _ | _ | _ | x
  · rcases y with _ | _ | _ | y
    · exact absurd rfl hxy
    · exact h01
    · exact h02
    · omega
  · rcases y with _ | _ | _ | y
    · exact h10
    · exact absurd rfl hxy
    · exact h12
    · omega
  · rcases y with _ | _ | _ | y
    · exact h20
    · exact h21
    · exact absurd rfl hxy
    · omega
  · omega
theorem ne_room {e : Env} {s : State} {nc ns : Nat} (h : s.hasRoom e.platform room_1 = true) (h1 : nc ≤ 600000) (h2 : ns ≤ 7000000) : s.hasRoom e.platform (am_room 18 nc ns) = true := by
  have r1 : room_1.frames = 18 := rfl
  have r2 : room_1.locals = 754 := rfl
  have r3 : room_1.cells = 601024 := rfl
  have r4 : room_1.slots = 7293034 := rfl
  have q1 : (am_room 18 nc ns).frames = 18 := rfl
  have q2 : (am_room 18 nc ns).locals = 676 := rfl
  have q3 : (am_room 18 nc ns).cells = nc := rfl
  have q4 : (am_room 18 nc ns).slots = ns := rfl
  simp only [State.hasRoom, Bool.and_eq_true, decide_eq_true_eq] at h ⊢
  rw [r1, r2, r3, r4] at h
  rw [q1, q2, q3, q4]
  exact ⟨⟨⟨⟨by omega, by omega, by omega, by omega, by omega, h.1.1.1.2.2.2.2.2⟩, by omega⟩, by omega⟩, h.2⟩
/-- from the entry, for every script of at most 3072 ints, the law comes to its end with true -/
theorem whole_start {p : Program} {e : Env} {s : State} {m : MethodId} {below : List Frame} {meth : Method} {c : Code} (l : Launch) (htr : l.stackTraces = false) {b L : Nat} {xs : Nat → Int32} (hL : L ≤ 3072) (C0 : lw_At p s m meth c b L xs) (hI : am_Is x code maxLocals ret [] s m meth c) : W p l e room_1 s m #[Value.ref b] below meth c s.heap [] 0 0 (lw_Z below #[Value.ref b] s) (entryFrame m ([Value.ref b] : List Value).toArray 8) := by
  obtain ⟨hx, hb, hr, hml, hown, hts, hXs, hbl, hlk, hgv⟩ := C0
  have hs := flat_of_before _ hgv
  have hA : ∀ a : Nat, a < s.heap.size → ¬ (fun q : Nat => s.heap.size ≤ q) a := fun a h => Nat.not_le.mpr h
  obtain ⟨D, cA, hK⟩ := ne_K hts
  obtain ⟨adK, adV, hS, htm⟩ := ne_S hgv hA
  obtain ⟨v, hv, hvr⟩ := ne_ref (hs (.isRef (.static "jdk/internal/util/Preconditions" "SIOOBE_FORMATTER" "Ljava/util/function/BiFunction;")) (by decide +kernel))
  have main : ∀ (aS : Nat) (sio : Value), am_v (ne_ad b aS adK adV) sio = v → (∀ n, am_okv n sio) → sio.category = 1 → nk_chk sio = true → W p l e room_1 s m #[Value.ref b] below meth c s.heap [] 0 0 (lw_Z below #[Value.ref b] s) (entryFrame m ([Value.ref b] : List Value).toArray 8) := by
    intro aS sio he hok k1 k0
    obtain ⟨fuel, h, nc, ns, hrun, hnc, hns⟩ := np_run (L := L) (xs := xs) (sio := sio) hL k1 k0
    have hX := ne_X (aS := aS) hts hXs hbl hgv hA hS htm hv he
    have hCS := am_call_ok (l := l) (E := nm_E L xs sio) (K := nm_K) (cn := nm_cn) (pg := pg) (D := D) (cA := cA) (A := fun q : Nat => s.heap.size ≤ q) (H0 := s.heap) (nm_PV L xs sio hok) (fun q hq => hq) htr fuel 18 0 [.ref 1000000] [] _ hrun
      (fun w hw => by rcases List.mem_cons.mp hw with rfl | hw; · exact Or.inr (Nat.le_refl _)
                      · cases hw) (fun w hw => nomatch hw) p e s m below meth c s.heap (ne_ad b aS adK adV) hx (by rw [sg_0]; exact hI) (ne_At hts hgv hK)
      (fun k q hq => by cases hq) ⟨(fun i j p q hp => by cases hp), (fun k q hq => by cases hq)⟩ ⟨Nat.le_refl _, fun _ _ _ => rfl, fun _ h => nomatch h⟩ hX
    rw [sg_0] at hCS
    intro T hT X
    obtain ⟨t, hst, o, q1, q2, ⟨ad', -, -, -, -, -, -, q7⟩, Lc, q4, q5, q6⟩ := hCS T hT { X with room := ne_room X.room hnc hns }
    have ho : o = .returned (some (.int 1)) := q7.1
    exact ⟨t, hst, o, q1, q2, ho, ⟨_, ho⟩, q4, q5.weaken (fun y hy hlt => absurd hlt (Nat.not_lt.mpr (q6 y hy))) (Nat.le_trans hnc (by decide)) (Nat.le_trans hns (by decide))⟩
  rcases hvr with rfl | ⟨a, rfl⟩
  · exact main 0 .null rfl (fun n => trivial) rfl nk_null
  · exact main a (.ref 2000000) rfl (fun n => Or.inr (by decide)) rfl nk_ref
set_option maxHeartbeats 4000000 in
theorem lw_walk (l : Launch) (htr : l.stackTraces = false) (b : Addr) (xs : List Int32) : MetFree l x (headSpec (Jvm.Cond.code x code maxLocals ret :: tables_1) room_1) (lw_P b xs) (fun _ _ _ _ _ => True) lw_Q := by
  refine MetFree.of_bodyS (code := code) (maxLocals := maxLocals) (ret := ret) (by decide) ?_ ?_
  · intro args s m h hn
    obtain ⟨meth, c, h1, h2, h3, h4, h5, h6, -, -⟩ := Cond.code_spec hn (atoms_spec (ws := Jvm.Cond.code x code maxLocals ret :: tables_1) h _ List.mem_cons_self)
    exact ⟨meth, c, h1, h2, h3, h4, h5, h6⟩
  · intro p e s m args below meth c s₁ B hml0 hP _
    obtain ⟨rfl, hx, hbd, hgv⟩ := hP
    obtain ⟨scr, harrAt, hlist, hof, hsmall⟩ := hx
    obtain ⟨hcb, hkn, -, -⟩ := State.arrayAt?_spec harrAt
    have hown : s.vm.findClass R_law = some m.cls := findClass_of_methodNamed B.named
    have hts0 : ∀ c ∈ (Jvm.Cond.code x code maxLocals ret :: tables_1), c.before #[Value.ref b] s = true := atoms_spec (ws := Jvm.Cond.code x code maxLocals ret :: tables_1) B.pre
    have hts : ∀ w ∈ lw_tbl, w.before #[Value.ref b] s = true := k2_hts_sels lw_privs (fun w hw => hts0 w (List.mem_cons_of_mem _ hw)) lw_privs_ok
    have hml : c.maxLocals = 8 := B.maxLocals_eq (hts0 _ List.mem_cons_self)
    obtain ⟨mk, methk, ck, his⟩ := am_Is.of (hts0 _ List.mem_cons_self)
    have X₀ : Stand p l e room_1 s m #[Value.ref b] below meth c s₁ [] 0 0 := Stand.of_body B
    have hh0 : s₁.heap = s.heap := by rw [B.state]; rfl
    have hsz : scr.slots.size = xs.length := by rw [← Array.length_toList, hlist, List.length_map]
    have hval : ∀ j : Nat, j < xs.length → scr.slots[j]? = some (.int (xs.getD j 0)) := fun j hj => by
      rw [← Array.getElem?_toList, hlist]
      simp [hj]
    have hbl : b < s.heap.size := (Array.getElem?_eq_some_iff.mp hcb).1
    have hX : va_X b xs.length (fun j => xs.getD j 0) s s.heap := ⟨scr, hcb, hof, hkn, hsz, hval⟩
    have K : W p l e room_1 s m #[Value.ref b] below meth c s₁.heap [] 0 0 (lw_Z below #[Value.ref b] s) (entryFrame m ([Value.ref b] : List Value).toArray 8) := by
      rw [hh0]
      cases Option.some.inj (his.1.symm.trans B.named)
      cases Option.some.inj (his.2.1.symm.trans B.method)
      cases Option.some.inj (his.2.2.1.symm.trans X₀.code)
      exact whole_start l htr hbd ⟨B.exec, B.bytes, B.returns, hml, hown, hts, hX, hbl, B.notSynchronized, hgv⟩ his
    obtain ⟨t, a1, o, b1, b2, b3⟩ := K s₁ rfl X₀
    exact ⟨t, o, a1, b1, b2, b3⟩
theorem lw_pre_spec {args : Array Value} {s : State} (h : (Jvm.Cond.and given_1 narrow_1).before args s = true) (hr : rest_1_c.before args s = true) : ∃ (b : Addr) (xs : List Int32), lw_P b xs args s := by
  have hs := flat_of_before _ h
  have hq := flat_of_before _ hr
  have hc : (Cond.count 1).before args s = true := hs _ (by decide +kernel)
  have harr : (Cond.arrayOf (.arg 0) .int).before args s = true := hs _ (by decide +kernel)
  have hle : (Cond.le (.length (.arg 0)) (.int 3072)).before args s = true := hs _ (by decide +kernel)
  have hlen : (Cond.isInt (.length (.arg 0))).before args s = true := hq _ (by decide +kernel)
  have hall : (Cond.all (.arg 0) (.isInt (.elem (.arg 0) (.index 0)))).before args s = true := hq _ (by decide +kernel)
  obtain ⟨b, xs, hb, hx⟩ := State.ints_of_pre rfl harr hlen hall
  have hsm : xs.length < 2 ^ 31 := hx.choose_spec.2.2.2
  have hev : (Term.length (.arg 0)).eval args s none [] s = some (.int xs.length.toInt32) := hx.length_eval hb
  have hv := Cond.le_ints hev (show (Term.int 3072).eval args s none [] s = some (.int 3072) from rfl)
  have hd : xs.length.toInt32 ≤ 3072 := by
    simpa [Cond.before, Cond.holds, hv] using hle
  have hN : xs.length ≤ 3072 := (Int32.ofNat_le_ofNat hsm (by decide)).mp (show Int32.ofNat xs.length ≤ Int32.ofNat 3072 from hd)
  exact ⟨b, xs, Cond.one_arg hc (show args[0]? = some (.ref b) from hb), hx, hN, h⟩
theorem lw_comes (l : Launch) (htr : l.stackTraces = false) : Comes l x (Jvm.Cond.code x code maxLocals ret :: tables_1) room_1 (fun tb e args s => Calls_1 tb e args s ∧ rest_1 tb e args s ∧ Pre_1 tb e args s)
    (fun _ _ args s o t => lw_Q args s o t) := by
  intro p e ha hc hk s m args below hf hfit hheap happ hpre
  obtain ⟨b, xs, hP⟩ := lw_pre_spec hpre.2.2 hpre.2.1
  obtain ⟨k, o, h1, h2, h3, hQ⟩ := lw_walk l htr b xs p e ha hc hk s m args below hf ((Spec.applies_iff_loose hf).mp happ).1 hP trivial
  exact ⟨k, o, h1, h2, h3, hQ⟩
theorem lw_frame {s t : State} {o : Outcome} {args : Array Value} (h : Framed s o t [] 601024 7293034) :
    Framed s o t (fieldLocs frame_1_writes args s ++ arrayLocs frame_1_arrays args s ++ staticLocs frame_1_statics s) 601024 7293034 := h
theorem lw_limb (L : Cond) (hL : ∀ (args : Array Value) (s t : State), L.after args s (.returned (some (.int 1))) t = true) :
    ArmFor flags0 classFile x code maxLocals ret World_1 tables_1 room_1 Calls_1 rest_1 Pre_1
      (fun tb e a s o t => postC L tb e a s o t ∧ Framed s o t (fieldLocs frame_1_writes a s ++ arrayLocs frame_1_arrays a s ++ staticLocs frame_1_statics s) 601024 7293034) := by
  intro l hfl _ _ p e ha hc hk s m args below hf hfit hheap happ hpre
  have htr : l.stackTraces = false := by
    unfold Launch.stackTraces
    rw [hfl]
    decide +kernel
  obtain ⟨k, o, h1, h2, h3, rfl, hF⟩ := lw_comes l htr p e ha hc hk s m args below hf hfit hheap happ hpre
  exact ⟨k, _, h1, h2, h3, hL args s _, lw_frame hF⟩
theorem i_vc : Claimed_1_1 ∧ Claimed_1_2 := ⟨lw_limb limb_1_1 (fun args s t => by simp [limb_1_1, Cond.after, Cond.holds, Cond.value]), lw_limb limb_1_2 (fun args s t => Cond.after_iff.mpr (by
  first | (rw [show limb_1_2 = Cond.eq .result (.int 1) from rfl, Cond.eq_ints (x := 1) (y := 1) rfl rfl]; simp; done) | (simp [limb_1_2, Cond.value, Term.eval]; done)))⟩

