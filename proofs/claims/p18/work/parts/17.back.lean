/-! ===== THE PURE MACHINE, part 17: behind a call ===== -/
theorem am_v_ex {n : Nat} {ad ad' : Nat → Nat} {v : Value} (hx : am_ex n ad ad') (h : am_okv n v) : am_v ad' v = am_v ad v := by
  cases v <;> try rfl
  exact congrArg Value.ref (hx _ h)
theorem am_L_ex {n : Nat} {ad ad' : Nat → Nat} {lv : List (Nat × Value)} (hx : am_ex n ad ad') (h : am_okL n lv) : am_L ad' lv = am_L ad lv := by
  unfold am_L
  exact List.map_congr_left (fun q hq => by rw [am_v_ex hx (h q hq)])
theorem am_S_ex {n : Nat} {ad ad' : Nat → Nat} {st : List Value} (hx : am_ex n ad ad') (h : am_okS n st) : st.map (am_v ad') = st.map (am_v ad) := List.map_congr_left (fun q hq => am_v_ex hx (h q hq))
theorem am_W_mono {p : Program} {l : Launch} {e : Env} {R : Room} {s : State} {m : MethodId} {args : Array Value} {below : List Frame} {meth : Method} {c : Code} {H : Heap} {locs : List Loc} {cells slots : Nat} {Q Q' : State → Prop} {g : JFrame} (h : ∀ t, Q t → Q' t) (k : W p l e R s m args below meth c H locs cells slots Q g) : W p l e R s m args below meth c H locs cells slots Q' g := fun T hT X => by
  obtain ⟨t, a, b⟩ := k T hT X
  exact ⟨t, a, h t b⟩
/-- calls are sound down to a depth -/
def am_CS (l : Launch) (E : am_En) (K : am_Ta) (pg : Nat → am_M) (D : va_G) (cA : Nat → ClassId) (A : Nat → Prop) (H0 : Heap) (call : am_Ca) (d : Nat) : Prop :=
  ∀ (mi : Nat) (av : List Value) (h : List am_C) (r : am_Re), call mi av h = some r → am_okS h.length av → am_okH h.length h → ∀ (p : Program) (e : Env) (s : State) (m : MethodId) (below : List Frame) (meth : Method) (c : Code) (H : Heap) (ad : Nat → Nat), p.tables.exec = Jvm.exec →
    am_Is (pg mi).1 (pg mi).2.1 (pg mi).2.2.1 (pg mi).2.2.2.1 (pg mi).2.2.2.2.1 s m meth c → am_At K D cA s → va_P D K.2.1 (am_W cA ad h) H → va_D A (am_W cA ad h) → va_S A H0 H [] → am_X E.1.1 E.1.2 E.2.1.1 E.2.1.2 K.2.2.1 E.2.2.2.2.2.2 A ad s H →
    W p l e (am_room d r.2.2.1 r.2.2.2) s m (av.map (am_v ad)).toArray below meth c H [] 0 0 (am_MQ below (am_Qc K D cA A H0 s h.length ad r) s r.2.2.1 r.2.2.2 A) (entryFrame m (av.map (am_v ad)).toArray (pg mi).2.2.1)
section AMB
variable {E : am_En} {K : am_Ta} {cn : Nat → Nat} {pg : Nat → am_M} {D : va_G} {cA : Nat → ClassId} {A : Nat → Prop} {H0 : Heap}
variable {p : Program} {l : Launch} {e : Env} {R : Room} {s : State} {m : MethodId} {args : Array Value} {below : List Frame} {meth : Method} {c : Code} {H : Heap} {locs : List Loc} {Q : State → Prop} {mi : Nat} {ad : Nat → Nat} {ls : Array Slot}
variable {pc : Nat} {lv : List (Nat × Value)} {st rest : List Value} {h : List am_C} {nc ns : Nat} {a d : Nat}
theorem am_callee (hc : ∀ w ∈ K.1, am_carry w = true) {call : am_Ca} (hcs : am_CS l E K pg D cA A H0 call d) {av : List Value} {r : am_Re} (hcall : call a av h = some r) (hx : p.tables.exec = Jvm.exec) (hAt : am_At K D cA s) (hw : am_okS h.length av) (hH : am_okH h.length h) (hP : va_P D K.2.1 (am_W cA ad h) H) (hD : va_D A (am_W cA ad h)) (hS : va_S A H0 H locs) (hX : am_X E.1.1 E.1.2 E.2.1.1 E.2.1.2 K.2.2.1 E.2.2.2.2.2.2 A ad s H) :
    am_Callee p l e (am_room d r.2.2.1 r.2.2.2) (pg a).1 (pg a).2.1 (pg a).2.2.1 (pg a).2.2.2.1 (pg a).2.2.2.2.1 s H (av.map (am_v ad)).toArray (am_Qc K D cA A H0 s h.length ad r) r.2.2.1 r.2.2.2 A := by
  intro s' mk below' methk ck hW hh hI
  refine am_W_mono ?_ (hcs a av h r hcall hw hH p e s' mk below' methk ck H ad hx hI (hAt.warm hc hW) hP hD ⟨hS.1, hS.2.1, fun z hz => nomatch hz⟩ (hX.warm hW))
  intro t ht
  obtain ⟨o, h1, h2, hq, h3⟩ := ht
  refine ⟨o, h1, h2, ?_, h3⟩
  obtain ⟨ad', q1, q2, q3, q4, q5, q6, q7⟩ := hq
  refine ⟨ad', q1, q2, q3, q4, q5, q6, ?_⟩
  split at q7
  · exact q7
  · obtain ⟨z1, q, cell, z2, z3, z4, z5, z6⟩ := q7
    exact ⟨z1, q, cell, z2, z3, z4, by rw [← hW.alike.findClass]; exact z5, z6⟩
theorem am_find_split {rows : List (Nat × Nat × Nat × Nat)} {x t : Nat} (hf : am_find E rows pc x = some t) : ∃ pre r suf, rows = pre ++ r :: suf ∧ (∀ y ∈ pre, (y.1 ≤ pc ∧ pc < y.2.1) ∧ E.2.2.2.2.2.1 y.2.2.2 ≠ x) ∧ (r.1 ≤ pc ∧ pc < r.2.1) ∧ E.2.2.2.2.2.1 r.2.2.2 = x ∧ r.2.2.1 = t := by
  induction rows with
  | nil => cases hf
  | cons r rs ih =>
    unfold am_find at hf
    split at hf
    · rename_i hc
      split at hf
      · rename_i hx
        cases hf
        exact ⟨[], r, rs, rfl, (fun y hy => nomatch hy), hc, hx, rfl⟩
      · rename_i hx
        obtain ⟨pre, r', suf, h1, h2, h3⟩ := ih hf
        refine ⟨r :: pre, r', suf, by rw [h1]; rfl, fun y hy => ?_, h3⟩
        rcases List.mem_cons.mp hy with rfl | hy
        · exact ⟨hc, hx⟩
        · exact h2 y hy
    · cases hf
theorem am_cov {z : ExceptionTableEntry} : covers z pc = true ↔ z.startPc ≤ pc ∧ pc < z.endPc := by
  simp [covers]
theorem am_s_back (hPV : am_PV E K cn pg) (hA : ∀ q, H0.size ≤ q → A q) (hAt : am_At K D cA s) (hown : s.vm.findClass (pg mi).1.cls = some m.cls) (hrows : c.exceptionTable.toList.map (fun h => (h.startPc, h.endPc, h.handlerPc, h.catchType)) = (pg mi).2.2.2.2.1) (hlocks : meth.locks = false)
    (hg : am_good E K D cA A H0 s (pg mi).2.2.1 ad ls (pc, lv, st, h, nc, ns) H locs) (hrest : am_okS h.length rest) {r0 : am_Re} {x : am_St ⊕ am_Re} (hk : am_back E (pg mi).2.2.2.2.1 pc lv rest nc ns (some r0) = some x)
    (hin : ∀ S', x = .inl S' → am_go E K D cA A H0 p l e R s m args below meth c Q (pg mi).2.2.1 ad h.length S') {n0 : Nat} {ad0 : Nat → Nat} (hout : ∀ r, x = .inr r → Q = am_MQ below (am_Qc K D cA A H0 s n0 ad0 r) s r.2.2.1 r.2.2.2 A) (hex0 : am_ex n0 ad0 ad) (hn0 : n0 ≤ h.length) :
    ∀ (o : Outcome) (H1 : Heap) (vm1 : Vm) (L : List Loc), (∀ q ∈ L, A q.base) → am_Qc K D cA A H0 s h.length ad r0 o H1 vm1 → s.WarmedH vm1 → am_next p l e R s m args below meth c H1 (locs ++ L) (nc + r0.2.2.1) (ns + r0.2.2.2) Q pc ls (rest.map (am_v ad)) o := by
  intro o H1 vm1 L hL hq hW
  obtain ⟨hl, ⟨w1, w2, w3⟩, hP, hD, hS, hX⟩ := hg
  obtain ⟨ad', hx, hn, hH', hP', hD', hS', hend⟩ := hq
  have hS2 : va_S A H0 H1 (locs ++ L) := ⟨hS'.1, hS'.2.1, fun z hz => (List.mem_append.mp hz).elim (hS.2.2 z) (hL z)⟩
  have hX2 : am_X E.1.1 E.1.2 E.2.1.1 E.2.1.2 K.2.2.1 E.2.2.2.2.2.2 A ad' s H1 := (hX.kept (am_frame hA hS hS')).ext (hPV.2.2.2.2.2.2.2.2.2 0) (fun k hk => hx k (Or.inr hk))
  obtain ⟨oo, h', k, n⟩ := r0
  dsimp only at hn hH' hP' hD' hend ⊢
  have hlL : lv_has ls (pg mi).2.2.1 (am_L ad' lv) := by rw [am_L_ex hx w1]; exact hl
  cases oo with
  | inl v =>
    obtain ⟨rfl, hv⟩ := hend
    unfold am_back at hk
    dsimp only at hk
    cases hk
    have hstk : (v.toList ++ rest).map (am_v ad') = (v.map (am_v ad')).toList ++ rest.map (am_v ad) := by
      rw [List.map_append, am_S_ex hx hrest]
      cases v <;> rfl
    have hok : am_okS h'.length (v.toList ++ rest) := fun z hz => by
      rcases List.mem_append.mp hz with hz | hz
      · cases v with
        | none => cases hz
        | some w =>
          rw [List.mem_singleton.mp (show z ∈ [w] from hz)]
          exact hv w rfl
      · exact am_okv_mono hn (hrest z hz)
    have go := hin _ rfl ad' ls H1 (locs ++ L) ⟨hlL, ⟨am_okL_mono hn w1, hok, hH'⟩, hP', hD', hS2, hX2⟩ hx hn
    dsimp only at go
    rw [hstk] at go
    exact go
  | inr x0 =>
    obtain ⟨hx3, q, cell, rfl, c1, c2, c3, c4, c5⟩ := hend
    unfold am_back at hk
    dsimp only at hk
    show am_T p l e R s m args below meth c H1 (locs ++ L) (nc + k) (ns + n) Q (F0 m pc ls (rest.map (am_v ad))) q
    split at hk
    · split at hk
      · rename_i t hf
        split at hk
        · rename_i hlen
          cases hk
          obtain ⟨pre, r, suf, e1, e2, e3, e4, e5⟩ := am_find_split hf
          obtain ⟨-, -, -, -, -, -, -, hR, hC, hso⟩ := hPV
          have hsplit0 : ∃ pre' x' suf', c.exceptionTable.toList = pre' ++ x' :: suf' ∧ pre'.map (fun h => (h.startPc, h.endPc, h.handlerPc, h.catchType)) = pre ∧ (x'.startPc, x'.endPc, x'.handlerPc, x'.catchType) = r := by
            rw [e1] at hrows
            obtain ⟨l1, l2, g1, g2, g3⟩ := List.map_eq_append_iff.mp hrows
            obtain ⟨y, ys, g4, g5, g6⟩ := List.map_eq_cons_iff.mp g3
            exact ⟨l1, y, ys, by rw [g1, g4], g2, g5⟩
          obtain ⟨pre', x', suf', s1, s2, s3⟩ := hsplit0
          have hrow : ∀ z ∈ (pg mi).2.2.2.2.1, z.2.2.2 ≠ 0 ∧ E.2.2.2.2.2.1 z.2.2.2 < 3 ∧ Cond.classLink (pg mi).1.cls z.2.2.2 (K.2.2.2.1 (E.2.2.2.2.2.1 z.2.2.2)) ∈ K.1 ∧ Cond.castable (K.2.2.2.1 (E.2.2.2.2.2.1 z.2.2.2)) (K.2.2.2.1 (E.2.2.2.2.2.1 z.2.2.2)) ∈ K.1 := fun z hz => hR mi z hz
          have hrr : r ∈ (pg mi).2.2.2.2.1 := by rw [e1]; exact List.mem_append_right _ List.mem_cons_self
          obtain ⟨r1, r2, r3, r4⟩ := hrow r hrr
          rw [e4] at r3 r4
          subst s3
          have hcx : (K.2.1[E.2.2.2.2.1 x0]?).isSome := by obtain ⟨T, hT⟩ := hC x0 hx3; rw [hT]; rfl
          obtain ⟨T0, hT0⟩ := hC x0 hx3
          refine am_caught (own := (pg mi).1.cls) (name := K.2.2.2.1 x0) (E := K.2.2.2.1 x0) hown pre' x' suf' s1 (fun z hz => ?_) (am_cov.mpr e3) r1 (hAt.1 _ r3 _) (hAt.1 _ r4 _) c1 c2 c3 ?_
          · have hz' : (z.startPc, z.endPc, z.handlerPc, z.catchType) ∈ pre := by rw [← s2]; exact List.mem_map.mpr ⟨z, hz, rfl⟩
            obtain ⟨f1, f2⟩ := e2 _ hz'
            obtain ⟨g1, g2, g3, -⟩ := hrow _ (by rw [e1]; exact List.mem_append_left _ hz')
            exact ⟨am_cov.mpr f1, g1, _, hAt.1 _ g3 _, hAt.2.2 _ _ hx3 g2 (fun z => f2 z.symm)⟩
          · have hcl : (K.2.1[E.2.2.2.2.1 x0]?) = some (K.2.2.2.1 x0, T0, 0) := hT0
            have hKn := hAt.2.1.1 _ _ hcl
            have hcell : cell.cls = D.1 (E.2.2.2.2.1 x0) := Option.some.inj (c3.symm.trans hKn.2.1)
            have hnew : va_P D K.2.1 (am_W cA ad' h' ++ [(q, .inr (E.2.2.2.2.1 x0, []))]) H1 := hP'.app (fun j z hz => by
              have hj : j < 1 := (List.getElem?_eq_some_iff.mp hz).1
              rw [show j = 0 by omega] at hz
              cases hz
              exact ⟨_, hcl, cell, c1, hcell, c2, fun j hj => absurd hj (Nat.not_lt_zero j)⟩)
            have hDn : va_D A (am_W cA ad' h' ++ [(q, .inr (E.2.2.2.2.1 x0, []))]) := va_D.app hD' ⟨fun i j y z hy hz _ => by
                have hi : i < 1 := (List.getElem?_eq_some_iff.mp hy).1
                have hj : j < 1 := (List.getElem?_eq_some_iff.mp hz).1
                omega, fun j z hz => by
                have hj : j < 1 := (List.getElem?_eq_some_iff.mp hz).1
                rw [show j = 0 by omega] at hz
                cases hz
                exact c4⟩ (fun i j y z hy hz hyz => by
              have hj : j < 1 := (List.getElem?_eq_some_iff.mp hz).1
              rw [show j = 0 by omega] at hz
              cases hz
              unfold am_W at hy
              rw [List.getElem?_mapIdx] at hy
              cases hi : h'[i]? with
              | none => rw [hi] at hy; cases hy
              | some w =>
                rw [hi] at hy
                cases hy
                exact c5 i (List.getElem?_eq_some_iff.mp hi).1 hyz)
            have he := am_W_new (cA := cA) (ad := ad') (q := q) (x := .inr (E.2.2.2.2.1 x0, [])) (y := .inr (E.2.2.2.2.1 x0, [])) hlen hH' rfl
            rw [he] at hnew hDn
            have hx2 : am_ex h'.length ad' (am_ad ad' h'.length q) := am_ex.ad hlen
            have go := hin _ rfl (am_ad ad' h'.length q) ls H1 (locs ++ L) ⟨by rw [am_L_ex hx2 (am_okL_mono hn w1)]; exact hlL, ⟨by rw [List.length_append]; exact am_okL_mono (Nat.le_trans hn (Nat.le_add_right _ _)) w1, by rw [List.length_append]; exact am_okS_c.mpr ⟨Or.inl (Nat.lt_succ_self _), fun z hz => nomatch hz⟩, by rw [List.length_append]; exact am_okH_push (am_okH_mono (Nat.le_add_right _ _) hH') (fun v hv => nomatch hv)⟩, hnew, hDn, hS2, hX2.ext (hso 0) (fun j hj => hx2 j (Or.inr hj))⟩ (hx.tr hn hx2) (by rw [List.length_append]; exact Nat.le_trans hn (Nat.le_add_right _ _))
            dsimp only at go
            have hst : [Value.ref h'.length].map (am_v (am_ad ad' h'.length q)) = [.ref q] := congrArg (fun z => [Value.ref z]) (am_ad_self ad' h'.length q)
            rw [hst, ← e5] at go
            exact go
        · cases hk
      · cases hk
    · rename_i hcov
      cases hk
      have hQ := hout _ rfl
      subst hQ
      refine am_leaves hlocks (fun z hz => ?_) (fun z hz => hS2.2.2 z hz) (Nat.le_refl _) (Nat.le_refl _) (fun vm1 hW1 => ?_)
      · have hmem : (z.startPc, z.endPc, z.handlerPc, z.catchType) ∈ (pg mi).2.2.2.2.1 := by rw [← hrows]; exact List.mem_map.mpr ⟨z, hz, rfl⟩
        cases hcz : covers z pc with
        | false => rfl
        | true =>
          exfalso
          apply hcov
          unfold am_covered
          rw [List.any_eq_true]
          have := am_cov.mp hcz
          exact ⟨_, hmem, by simp [this.1, this.2]⟩
      · exact ⟨ad', hex0.tr hn0 hx, Nat.le_trans hn0 hn, hH', hP', hD', hS', hx3, q, cell, rfl, c1, c2, c3, c4, c5⟩
end AMB
