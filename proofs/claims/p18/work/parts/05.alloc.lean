/-! ===== THE PURE MACHINE, part 5: cells that come ===== -/
theorem am_ad_ne {ad : Nat → Nat} {n q k : Nat} (hn : n < 1000000) (h : k < n ∨ 1000000 ≤ k) : am_ad ad n q k = ad k := if_neg (by omega)
theorem am_ad_self (ad : Nat → Nat) (n q : Nat) : am_ad ad n q n = q := if_pos rfl
theorem am_v_ad {ad : Nat → Nat} {n q : Nat} {v : Value} (hn : n < 1000000) (h : am_okv n v) : am_v (am_ad ad n q) v = am_v ad v := by
  cases v <;> try rfl
  exact congrArg Value.ref (am_ad_ne hn h)
theorem am_L_ad {ad : Nat → Nat} {n q : Nat} {lv : List (Nat × Value)} (hn : n < 1000000) (h : am_okL n lv) : am_L (am_ad ad n q) lv = am_L ad lv := by
  unfold am_L
  exact List.map_congr_left (fun x hx => by rw [am_v_ad hn (h x hx)])
theorem am_S_ad {ad : Nat → Nat} {n q : Nat} {st : List Value} (hn : n < 1000000) (h : am_okS n st) : st.map (am_v (am_ad ad n q)) = st.map (am_v ad) := List.map_congr_left (fun x hx => am_v_ad hn (h x hx))
theorem am_E_ad {cA : Nat → ClassId} {ad : Nat → Nat} {n q : Nat} {x : am_C} (hn : n < 1000000) (h : am_okC n x) : am_E cA (am_ad ad n q) x = am_E cA ad x := by
  obtain ⟨t, k, f | f | f | f | f⟩ | ⟨ci, fs⟩ := x <;> try rfl
  · show (Sum.inl (cA t, k, _) : va_E) = Sum.inl (cA t, k, _)
    congr 7
    funext j
    cases hj : f j with
    | none => rfl
    | some z => exact congrArg some (am_ad_ne hn (h j z hj))
  · show (Sum.inr (ci, _) : va_E) = Sum.inr (ci, _)
    congr 2
    exact am_S_ad hn h
theorem am_W_ad {cA : Nat → ClassId} {ad : Nat → Nat} {q : Nat} {h : List am_C} (hn : h.length < 1000000) (hw : am_okH h.length h) : am_W cA (am_ad ad h.length q) h = am_W cA ad h := by
  unfold am_W
  refine List.ext_getElem? fun i => ?_
  rw [List.getElem?_mapIdx, List.getElem?_mapIdx]
  cases hi : h[i]? with
  | none => rfl
  | some x =>
    have hl : i < h.length := (List.getElem?_eq_some_iff.mp hi).1
    show some (am_ad ad h.length q i, am_E cA (am_ad ad h.length q) x) = some (ad i, am_E cA ad x)
    rw [am_ad_ne hn (Or.inl hl), am_E_ad hn (hw x (List.mem_of_getElem? hi))]
theorem am_W_new {cA : Nat → ClassId} {ad : Nat → Nat} {q : Nat} {h : List am_C} {x : am_C} {y : va_E} (hn : h.length < 1000000) (hw : am_okH h.length h) (hy : am_E cA (am_ad ad h.length q) x = y) : am_W cA ad h ++ [(q, y)] = am_W cA (am_ad ad h.length q) (h ++ [x]) := by
  rw [← am_W_push, am_W_ad hn hw, am_ad_self, hy]
section AMN
variable {p : Program} {l : Launch} {e : Env} {R : Room} {s : State} {m : MethodId} {args : Array Value} {below : List Frame} {meth : Method} {c : Code} {H : Heap} {locs : List Loc} {cells slots : Nat} {Q : State → Prop}
variable {cc : ByteArray} {pc pc' : Nat} {ls : Array Slot} {lv lv' : List (Nat × Value)} {st st' : List Value} {ad : Nat → Nat} {cA : Nat → ClassId} {h h' : List am_C} {nS : Nat}
variable {D : va_G} {cl : List vw_C} {A : Nat → Prop} {H0 : Heap} {Ts : List Cond}
/-- the goal behind a cell that came -/
abbrev am_Knew (p : Program) (l : Launch) (e : Env) (R : Room) (s : State) (m : MethodId) (args : Array Value) (below : List Frame) (meth : Method) (c : Code) (locs : List Loc) (cells slots : Nat) (Q : State → Prop) (D : va_G) (cl : List vw_C) (A : Nat → Prop) (H0 : Heap) (cA : Nat → ClassId) (ad : Nat → Nat) (h h' : List am_C) (ls : Array Slot) (pc' : Nat) (st' : List Value) (nS : Nat) : Prop :=
  ∀ (q : Nat) (H1 : Heap), va_P D cl (am_W cA (am_ad ad h.length q) h') H1 → va_D A (am_W cA (am_ad ad h.length q) h') → va_S A H0 H1 locs → W p l e R s m args below meth c H1 locs (cells + 1) (slots + nS) Q (F0 m pc' ls (st'.map (am_v (am_ad ad h.length q))))
theorem am_new_ok {own C : String} {T : u_T} {N ci idx : Nat} {fs : List Value} (hx : p.tables.exec = Jvm.exec) (hb : c.code = cc) (hd : decode cc pc = .ok (.new idx, 3)) (hts : ∀ w ∈ Ts, w.before args s = true) (hin : ∀ w ∈ u_ws C T N, w ∈ Ts) (ty0 : Nat → FieldType) (hty : ∀ k, k < N → parseFieldDescriptor (T k).2.2.1 = some (ty0 k)) (hown : s.vm.findClass own = some m.cls) (hcl : (Cond.classLink own idx C).before args s = true) (hinst : (Cond.instantiable C N).before args s = true) (hini : (Cond.initialized C).before args s = true)
    (hK : va_K D cl (am_tys cA) s) (hP : va_P D cl (am_W cA ad h) H) (hD : va_D A (am_W cA ad h)) (hS : va_S A H0 H locs) (hA : ∀ q, H0.size ≤ q → A q) (hc : cl[ci]? = some (C, T, N)) (hfs : ∀ j, j < N → defaultValue (ty0 j) = vp_V fs j) (hlen : fs.length = N) (hpl : ∀ v ∈ fs, ∀ ad : Nat → Nat, am_v ad v = v)
    (hw : am_okH h.length h) (hwS : am_okS h.length st) (hcells : cells + 1 ≤ R.cells) (hslots : slots + nS ≤ R.slots)
    (hr : am_new ci fs pc lv st h = some (pc', lv', st', h', nS)) (kk : lv = lv' → h.length < 1000000 → am_Knew p l e R s m args below meth c locs cells slots Q D cl A H0 cA ad h h' ls pc' st' nS) : W p l e R s m args below meth c H locs cells slots Q (F0 m pc ls (st.map (am_v ad))) := by
  unfold am_new at hr
  split at hr
  · rename_i hn
    cases hr
    subst hlen
    have hmap : ∀ ad : Nat → Nat, fs.map (am_v ad) = fs := fun ad => by
      conv => rhs; rw [← List.map_id fs]
      exact List.map_congr_left (fun v hv => hpl v hv ad)
    refine va_new hx hb hts hin ty0 hty hown hcl hinst hini hK hP hD hS hA hc hfs hcells hslots hd fun q H1 a1 a2 a3 => ?_
    have he : am_W cA ad h ++ [(q, .inr (ci, fs))] = am_W cA (am_ad ad h.length q) (h ++ [.inr (ci, fs)]) := am_W_new hn hw (by show (Sum.inr (ci, fs.map _) : va_E) = _; rw [hmap])
    rw [he] at a1 a2
    have hst : (Value.ref h.length :: st).map (am_v (am_ad ad h.length q)) = .ref q :: st.map (am_v ad) := by
      rw [List.map_cons, am_S_ad hn hwS]
      exact congrArg (fun z => Value.ref z :: st.map (am_v ad)) (am_ad_self ad h.length q)
    have go := kk rfl hn q H1 a1 a2 a3
    rw [hst] at go
    exact go
  · cases hr
/-- an array's class is the one that the tables name -/
theorem am_cls {t : Nat} (hK : va_K D cl (am_tys cA) s) (ht : t < 4) : s.vm.findClass ("[" ++ (am_ty t).toString) = some (cA t) := by
  have hz := (hK.2 t _ (am_tys_at cA (by omega))).2
  match t, ht with
  | 0, _ => exact hz
  | 1, _ => exact hz
  | 2, _ => exact hz
  | 3, _ => exact hz
theorem am_newa_ok {t : Nat} {atype : ArrayType} (hty : newarray.typeOf atype = am_ty t) (hx : p.tables.exec = Jvm.exec) (hb : c.code = cc) (hd : decode cc pc = .ok (.newarray atype, 2)) (harr : (Cond.arrayClass (newarray.typeOf atype)).before args s = true)
    (hK : va_K D cl (am_tys cA) s) (hP : va_P D cl (am_W cA ad h) H) (hD : va_D A (am_W cA ad h)) (hS : va_S A H0 H locs) (hA : ∀ q, H0.size ≤ q → A q)
    (hw : am_okH h.length h) (hwS : am_okS h.length st) (hcells : cells + 1 ≤ R.cells) (hslots : slots + nS ≤ R.slots)
    (hr : am_newa t pc lv st h = some (pc', lv', st', h', nS)) (kk : lv = lv' → h.length < 1000000 → am_Knew p l e R s m args below meth c locs cells slots Q D cl A H0 cA ad h h' ls pc' st' nS) : W p l e R s m args below meth c H locs cells slots Q (F0 m pc ls (st.map (am_v ad))) := by
  unfold am_newa at hr
  split at hr
  · rename_i n r
    split at hr
    · rename_i hz
      obtain ⟨ht, hn0, hn1, hn⟩ := hz
      cases hr
      have hb8 : n.toNatClampNeg * componentBytes (newarray.typeOf atype) ≤ 536870912 := by
        have : componentBytes (newarray.typeOf atype) ≤ 8 := by cases atype <;> decide
        calc n.toNatClampNeg * componentBytes (newarray.typeOf atype) ≤ 1000000 * 8 := Nat.mul_le_mul hn1 this
          _ ≤ 536870912 := by decide
      refine va_newaK (g := F0 m pc ls ((Value.int n :: r).map (am_v ad))) hx hb harr rfl hd rfl hn0 rfl hb8 hcells hslots rfl fun H1 cA' e1 z1 o1 hAr hNm => ?_
      have hcA : cA' = cA t := Option.some.inj (hNm.symm.trans (by rw [hty]; exact am_cls hK ht))
      subst hcA
      have hcell : vp_cell (cA t) (am_zero t n.toNatClampNeg) = arrV (cA t) n.toNatClampNeg (fun _ => defaultValue (newarray.typeOf atype)) := by
        rw [hty]
        match t, ht with
        | 0, _ => rfl
        | 1, _ => rfl
        | 2, _ => rfl
        | 3, _ => rfl
      have hE : ∀ ad' : Nat → Nat, am_E cA ad' (.inl (t, am_zero t n.toNatClampNeg)) = .inl (cA t, am_zero t n.toNatClampNeg) := fun ad' => by
        match t, ht with
        | 0, _ => rfl
        | 1, _ => rfl
        | 2, _ => rfl
        | 3, _ => rfl
      have hk : ∀ (k : Nat) (x : Nat × va_E), (am_W cA ad h)[k]? = some x → H1[x.1]? = H[x.1]? := fun k x hx => o1 x.1 ((hP k x hx).lt)
      have he : am_W cA ad h ++ [(H.size, .inl (cA t, am_zero t n.toNatClampNeg))] = am_W cA (am_ad ad h.length H.size) (h ++ [.inl (t, am_zero t n.toNatClampNeg)]) := am_W_new hn hw (hE _)
      have a1 : va_P D cl (am_W cA ad h ++ [(H.size, .inl (cA t, am_zero t n.toNatClampNeg))]) H1 := (hP.kept hk).app (fun k x hx => by
        have hz : k < 1 := (List.getElem?_eq_some_iff.mp hx).1
        rw [show k = 0 by omega] at hx
        cases hx
        show H1[H.size]? = some (vp_cell _ _)
        rw [hcell]
        exact e1)
      have a2 : va_D A (am_W cA ad h ++ [(H.size, .inl (cA t, am_zero t n.toNatClampNeg))]) := hD.push hP rfl (hA _ hS.1)
      have a3 : va_S A H0 H1 locs := ⟨Nat.le_trans hS.1 (by omega), fun x h1 h2 => (o1 x (Nat.lt_of_lt_of_le h1 hS.1)).trans (hS.2.1 x h1 h2), hS.2.2⟩
      rw [he] at a1 a2
      have hst : (Value.ref h.length :: r).map (am_v (am_ad ad h.length H.size)) = .ref H.size :: r.map (am_v ad) := by
        rw [List.map_cons, am_S_ad hn (fun v hv => hwS v (List.mem_cons_of_mem _ hv))]
        exact congrArg (fun z => Value.ref z :: r.map (am_v ad)) (am_ad_self ad h.length H.size)
      have go := kk rfl hn H.size H1 a1 a2 a3
      rw [hst] at go
      exact go
    · cases hr
  · cases hr
theorem am_newq_ok {t idx : Nat} {own C : String} (hty : am_ty t = .object C) (hx : p.tables.exec = Jvm.exec) (hb : c.code = cc) (hd : decode cc pc = .ok (.anewarray idx, 3)) (hown : s.vm.findClass own = some m.cls) (hcl : (Cond.classLink own idx C).before args s = true) (hover : va_AO C s)
    (hK : va_K D cl (am_tys cA) s) (hP : va_P D cl (am_W cA ad h) H) (hD : va_D A (am_W cA ad h)) (hS : va_S A H0 H locs) (hA : ∀ q, H0.size ≤ q → A q)
    (hw : am_okH h.length h) (hwS : am_okS h.length st) (hcells : cells + 1 ≤ R.cells) (hslots : slots + nS ≤ R.slots)
    (hr : am_newq t pc lv st h = some (pc', lv', st', h', nS)) (kk : lv = lv' → h.length < 1000000 → am_Knew p l e R s m args below meth c locs cells slots Q D cl A H0 cA ad h h' ls pc' st' nS) : W p l e R s m args below meth c H locs cells slots Q (F0 m pc ls (st.map (am_v ad))) := by
  unfold am_newq at hr
  split at hr
  · rename_i n r
    split at hr
    · rename_i hz
      obtain ⟨ht, hn0, hn1, hn⟩ := hz
      cases hr
      refine va_newq hx hb hown hcl hover hK hP hD hS hA hn0 rfl (by omega) hcells hslots hd fun q cA' H1 b1 a1 a2 a3 => ?_
      have hold := (hK.2 t _ (am_tys_at cA (by omega))).2
      rw [hty] at hold
      have hnew := (b1.2 6 (cA', .object C) rfl).2
      obtain ⟨_, _, -, -, -, n1⟩ := hold
      obtain ⟨_, _, -, -, -, n2⟩ := hnew
      have hcA : cA' = cA t := Option.some.inj (n2.symm.trans n1)
      subst hcA
      have hE : am_E cA (am_ad ad h.length q) (.inl (t, am_zero t n.toNatClampNeg)) = .inl (cA t, n.toNatClampNeg, .inr (.inr (.inr (.inr (fun _ => none))))) := by
        rcases ht with rfl | rfl <;> rfl
      have he := am_W_new (cA := cA) (ad := ad) (q := q) hn hw hE
      rw [he] at a1 a2
      have hst : (Value.ref h.length :: r).map (am_v (am_ad ad h.length q)) = .ref q :: r.map (am_v ad) := by
        rw [List.map_cons, am_S_ad hn (fun v hv => hwS v (List.mem_cons_of_mem _ hv))]
        exact congrArg (fun z => Value.ref z :: r.map (am_v ad)) (am_ad_self ad h.length q)
      have go := kk rfl hn q H1 a1 a2 a3
      rw [hst] at go
      exact go
    · cases hr
  · cases hr
end AMN
