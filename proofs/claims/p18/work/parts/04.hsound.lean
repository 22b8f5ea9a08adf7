/-! ===== THE PURE MACHINE, part 4: its instructions on cells are the machine's ===== -/
section AMH
variable {p : Program} {l : Launch} {e : Env} {R : Room} {s : State} {m : MethodId} {args : Array Value} {below : List Frame} {meth : Method} {c : Code} {H : Heap} {locs : List Loc} {cells slots : Nat} {Q : State → Prop}
variable {cc : ByteArray} {pc pc' : Nat} {ls : Array Slot} {lv lv' : List (Nat × Value)} {st st' : List Value} {ad : Nat → Nat} {cA : Nat → ClassId} {h h' : List am_C}
variable {D : va_G} {cl : List vw_C} {A : Nat → Prop} {H0 : Heap} {Ts : List Cond}
theorem am_getf_ok {own C : String} {T : u_T} {N ci k idx : Nat} (hx : p.tables.exec = Jvm.exec) (hb : c.code = cc) (hd : decode cc pc = .ok (.getfield idx, 3)) (hts : ∀ w ∈ Ts, w.before args s = true) (hin : ∀ w ∈ u_ws C T N, w ∈ Ts) (hown : s.vm.findClass own = some m.cls) (hK : va_K D cl (am_tys cA) s) (hP : va_P D cl (am_W cA ad h) H) (hc : cl[ci]? = some (C, T, N)) (hk : k < N) (hlink : (Cond.fieldLink own idx (T k).1 (T k).2.1 (T k).2.2.1).before args s = true)
    (hr : am_getf ci k pc lv st h = some (pc', lv', st', h')) (kk : lv = lv' → h = h' → W p l e R s m args below meth c H locs cells slots Q (F0 m pc' ls (st'.map (am_v ad)))) : W p l e R s m args below meth c H locs cells slots Q (F0 m pc ls (st.map (am_v ad))) := by
  unfold am_getf at hr
  split at hr
  · rename_i q r
    split at hr
    · rename_i cj fs hq
      split at hr
      · rename_i hcj
        subst hcj
        split at hr
        · rename_i v hv
          cases hr
          exact va_get hx hb hts hin hown hK hP q (am_W_at hq) hc k hk hlink (fun _ z => z) (v := am_v ad v) (by rw [List.getElem?_map, hv]; rfl) hd (kk rfl rfl)
        · cases hr
      · cases hr
    · cases hr
  · cases hr
theorem am_putf_ok {own C : String} {T : u_T} {N ci k idx : Nat} {ty : FieldType} (hx : p.tables.exec = Jvm.exec) (hb : c.code = cc) (hd : decode cc pc = .ok (.putfield idx, 3)) (hts : ∀ w ∈ Ts, w.before args s = true) (hin : ∀ w ∈ u_ws C T N, w ∈ Ts) (ty0 : Nat → FieldType) (hty : ∀ k, k < N → parseFieldDescriptor (T k).2.2.1 = some (ty0 k)) (hnm : ∀ a, a < N → ∀ b, b < N → a ≠ b → (T a).2.1 ≠ (T b).2.1) (hown : s.vm.findClass own = some m.cls) (hK : va_K D cl (am_tys cA) s) (hP : va_P D cl (am_W cA ad h) H) (hD : va_D A (am_W cA ad h)) (hS : va_S A H0 H locs) (hc : cl[ci]? = some (C, T, N)) (hk : k < N) (hlink : (Cond.fieldLink own idx (T k).1 (T k).2.1 (T k).2.2.1).before args s = true)
    (hfin : (T k).2.2.2 = false ∨ ((T k).2.2.2 = true ∧ meth.name = "<init>" ∧ (T k).1 = own)) (hpd : parseFieldDescriptor (T k).2.2.1 = some ty)
    (hr : am_putf ci k ty pc lv st h = some (pc', lv', st', h')) (kk : ∀ (H1 : Heap) (locs1 : List Loc), lv = lv' → va_P D cl (am_W cA ad h') H1 → va_D A (am_W cA ad h') → va_S A H0 H1 locs1 → W p l e R s m args below meth c H1 locs1 cells slots Q (F0 m pc' ls (st'.map (am_v ad)))) : W p l e R s m args below meth c H locs cells slots Q (F0 m pc ls (st.map (am_v ad))) := by
  unfold am_putf at hr
  split at hr
  · rename_i v q r
    split at hr
    · rename_i cj fs hq
      split at hr
      · rename_i hz
        obtain ⟨hcj, hlen, hfit⟩ := hz
        subst hcj
        cases hr
        obtain ⟨f1, f2⟩ := am_fit_ok ad hfit
        have hset : (am_W cA ad h).set q (ad q, .inr (cj, (fs.map (am_v ad)).set k (am_v ad v))) = am_W cA ad (h.set q (.inr (cj, fs.set k v))) := by
          rw [← am_W_set]
          show _ = (am_W cA ad h).set q (ad q, .inr (cj, (fs.set k v).map (am_v ad)))
          rw [List.map_set]
        have go : ∀ (H1 : Heap) (locs1 : List Loc), va_P D cl ((am_W cA ad h).set q (ad q, .inr (cj, (fs.map (am_v ad)).set k (am_v ad v)))) H1 → va_D A ((am_W cA ad h).set q (ad q, .inr (cj, (fs.map (am_v ad)).set k (am_v ad v)))) → va_S A H0 H1 locs1 → W p l e R s m args below meth c H1 locs1 cells slots Q (F0 m (pc + 3) ls (st'.map (am_v ad))) := fun H1 locs1 a1 a2 a3 => kk H1 locs1 rfl (by rw [← hset]; exact a1) (by rw [← hset]; exact a2) a3
        rcases hfin with hf | ⟨hf, hmn, hdecl⟩
        · exact va_put hx hb hts hin ty0 hty hnm hown hK hP hD hS q (am_W_at hq) hc k hk hlink (fun _ z => z) hf hpd f1 f2 (by rw [List.length_map]; exact hlen) hd go
        · exact va_putF hx hb hts hin ty0 hty hnm hown hK hP hD hS q (am_W_at hq) hc k hk hlink (fun _ z => z) hf hmn hdecl hpd f1 f2 (by rw [List.length_map]; exact hlen) hd go
      · cases hr
    · cases hr
  · cases hr
theorem am_iald_ok (hx : p.tables.exec = Jvm.exec) (hb : c.code = cc) (hd : decode cc pc = .ok (.iaload, 1)) (hK : va_K D cl (am_tys cA) s) (hP : va_P D cl (am_W cA ad h) H) 
    (hr : am_iald 0 pc lv st h = some (pc', lv', st', h')) (kk : lv = lv' → h = h' → W p l e R s m args below meth c H locs cells slots Q (F0 m pc' ls (st'.map (am_v ad)))) : W p l e R s m args below meth c H locs cells slots Q (F0 m pc ls (st.map (am_v ad))) := by
  unfold am_iald at hr
  split at hr
  · rename_i i q r
    split at hr
    · rename_i u n f hq
      split at hr
      · rename_i hz
        obtain ⟨hu, hi⟩ := hz
        cases hr
        subst hu
        exact va_iald hx hb hK hP q 0 (am_W_at hq) (am_tys_at cA (by decide)) hi hd (kk rfl rfl)
      · cases hr
    · cases hr
  · cases hr
theorem am_bald_ok (hx : p.tables.exec = Jvm.exec) (hb : c.code = cc) (hd : decode cc pc = .ok (.baload, 1)) (hK : va_K D cl (am_tys cA) s) (hP : va_P D cl (am_W cA ad h) H) 
    (hr : am_bald pc lv st h = some (pc', lv', st', h')) (kk : lv = lv' → h = h' → W p l e R s m args below meth c H locs cells slots Q (F0 m pc' ls (st'.map (am_v ad)))) : W p l e R s m args below meth c H locs cells slots Q (F0 m pc ls (st.map (am_v ad))) := by
  unfold am_bald at hr
  split at hr
  · rename_i i q r
    split at hr
    · rename_i u n f hq
      split at hr
      · rename_i hz
        obtain ⟨hu, hi⟩ := hz
        cases hr
        rcases hu with rfl | rfl
        · exact va_bald hx hb hK hP q 2 (am_W_at hq) (am_tys_at cA (by decide)) hi hd (kk rfl rfl)
        · exact va_zald hx hb hK hP q 3 (am_W_at hq) (am_tys_at cA (by decide)) hi hd (kk rfl rfl)
      · cases hr
    · cases hr
  · cases hr
theorem am_lald_ok (hx : p.tables.exec = Jvm.exec) (hb : c.code = cc) (hd : decode cc pc = .ok (.laload, 1)) (hK : va_K D cl (am_tys cA) s) (hP : va_P D cl (am_W cA ad h) H) 
    (hr : am_lald pc lv st h = some (pc', lv', st', h')) (kk : lv = lv' → h = h' → W p l e R s m args below meth c H locs cells slots Q (F0 m pc' ls (st'.map (am_v ad)))) : W p l e R s m args below meth c H locs cells slots Q (F0 m pc ls (st.map (am_v ad))) := by
  unfold am_lald at hr
  split at hr
  · rename_i i q r
    split at hr
    · rename_i u n f hq
      split at hr
      · rename_i hz
        obtain ⟨hu, hi⟩ := hz
        cases hr
        subst hu
        exact va_lald hx hb hK hP q 1 (am_W_at hq) (am_tys_at cA (by decide)) hi hd (kk rfl rfl)
      · cases hr
    · cases hr
  · cases hr
theorem am_rf (ad : Nat → Nat) (r : Option Nat) : va_rf (r.map ad) = am_v ad (va_rf r) := by cases r <;> rfl
theorem am_aald_ok (hx : p.tables.exec = Jvm.exec) (hb : c.code = cc) (hd : decode cc pc = .ok (.aaload, 1)) (hK : va_K D cl (am_tys cA) s) (hP : va_P D cl (am_W cA ad h) H) 
    (hr : am_aald pc lv st h = some (pc', lv', st', h')) (kk : lv = lv' → h = h' → W p l e R s m args below meth c H locs cells slots Q (F0 m pc' ls (st'.map (am_v ad)))) : W p l e R s m args below meth c H locs cells slots Q (F0 m pc ls (st.map (am_v ad))) := by
  unfold am_aald at hr
  split at hr
  · rename_i i q r
    split at hr
    · rename_i u n f hq
      split at hr
      · rename_i hz
        obtain ⟨hu, hi⟩ := hz
        cases hr
        have go := kk rfl rfl
        rw [List.map_cons, ← am_rf] at go
        rcases hu with rfl | rfl
        · exact va_aldq hx hb hK hP q 4 (am_W_at hq) (am_tys_at cA (by decide)) hi hd go
        · exact va_aldq hx hb hK hP q 5 (am_W_at hq) (am_tys_at cA (by decide)) hi hd go
      · cases hr
    · cases hr
  · cases hr
theorem am_iast_ok (hx : p.tables.exec = Jvm.exec) (hb : c.code = cc) (hd : decode cc pc = .ok (.iastore, 1)) (hK : va_K D cl (am_tys cA) s) (hP : va_P D cl (am_W cA ad h) H) (hD : va_D A (am_W cA ad h)) (hS : va_S A H0 H locs)
    (hr : am_iast pc lv st h = some (pc', lv', st', h')) (kk : ∀ (H1 : Heap) (locs1 : List Loc), lv = lv' → va_P D cl (am_W cA ad h') H1 → va_D A (am_W cA ad h') → va_S A H0 H1 locs1 → W p l e R s m args below meth c H1 locs1 cells slots Q (F0 m pc' ls (st'.map (am_v ad)))) : W p l e R s m args below meth c H locs cells slots Q (F0 m pc ls (st.map (am_v ad))) := by
  unfold am_iast at hr
  split at hr
  · rename_i x i q r
    split at hr
    · rename_i u n f hq
      split at hr
      · rename_i hz
        obtain ⟨hu, hi⟩ := hz
        cases hr
        subst hu
        exact va_iast hx hb hK hP hD hS q 0 (am_W_at hq) (am_tys_at cA (by decide)) hi hd (fun H1 locs1 a1 a2 a3 => kk H1 locs1 rfl (by rw [← am_W_set]; exact a1) (by rw [← am_W_set]; exact a2) a3)
      · cases hr
    · cases hr
  · cases hr
theorem am_bast_ok (hx : p.tables.exec = Jvm.exec) (hb : c.code = cc) (hd : decode cc pc = .ok (.bastore, 1)) (hK : va_K D cl (am_tys cA) s) (hP : va_P D cl (am_W cA ad h) H) (hD : va_D A (am_W cA ad h)) (hS : va_S A H0 H locs)
    (hr : am_bast pc lv st h = some (pc', lv', st', h')) (kk : ∀ (H1 : Heap) (locs1 : List Loc), lv = lv' → va_P D cl (am_W cA ad h') H1 → va_D A (am_W cA ad h') → va_S A H0 H1 locs1 → W p l e R s m args below meth c H1 locs1 cells slots Q (F0 m pc' ls (st'.map (am_v ad)))) : W p l e R s m args below meth c H locs cells slots Q (F0 m pc ls (st.map (am_v ad))) := by
  unfold am_bast at hr
  split at hr
  · rename_i x i q r
    split at hr
    · rename_i u n f hq
      split at hr
      · rename_i hz
        obtain ⟨hu, hi⟩ := hz
        cases hr
        rcases hu with rfl | rfl
        · exact va_bast hx hb hK hP hD hS q 2 (am_W_at hq) (am_tys_at cA (by decide)) hi hd (fun H1 locs1 a1 a2 a3 => kk H1 locs1 rfl (by rw [← am_W_set]; exact a1) (by rw [← am_W_set]; exact a2) a3)
        · exact va_zast hx hb hK hP hD hS q 3 (am_W_at hq) (am_tys_at cA (by decide)) hi hd (fun H1 locs1 a1 a2 a3 => kk H1 locs1 rfl (by rw [← am_W_set]; exact a1) (by rw [← am_W_set]; exact a2) a3)
      · cases hr
    · cases hr
  · cases hr
theorem am_last_ok (hx : p.tables.exec = Jvm.exec) (hb : c.code = cc) (hd : decode cc pc = .ok (.lastore, 1)) (hK : va_K D cl (am_tys cA) s) (hP : va_P D cl (am_W cA ad h) H) (hD : va_D A (am_W cA ad h)) (hS : va_S A H0 H locs)
    (hr : am_last pc lv st h = some (pc', lv', st', h')) (kk : ∀ (H1 : Heap) (locs1 : List Loc), lv = lv' → va_P D cl (am_W cA ad h') H1 → va_D A (am_W cA ad h') → va_S A H0 H1 locs1 → W p l e R s m args below meth c H1 locs1 cells slots Q (F0 m pc' ls (st'.map (am_v ad)))) : W p l e R s m args below meth c H locs cells slots Q (F0 m pc ls (st.map (am_v ad))) := by
  unfold am_last at hr
  split at hr
  · rename_i x i q r
    split at hr
    · rename_i u n f hq
      split at hr
      · rename_i hz
        obtain ⟨hu, hi⟩ := hz
        cases hr
        subst hu
        exact va_last hx hb hK hP hD hS q 1 (am_W_at hq) (am_tys_at cA (by decide)) hi hd (fun H1 locs1 a1 a2 a3 => kk H1 locs1 rfl (by rw [← am_W_set]; exact a1) (by rw [← am_W_set]; exact a2) a3)
      · cases hr
    · cases hr
  · cases hr
theorem am_aast_ok {tb op : Nat} {rt ro : vw_C} (ht : cl[tb]? = some rt) (ho : cl[op]? = some ro) (h4 : am_ty 4 = .object rt.1) (h5 : am_ty 5 = .object ro.1) (hx : p.tables.exec = Jvm.exec) (hb : c.code = cc) (hd : decode cc pc = .ok (.aastore, 1)) (hK : va_K D cl (am_tys cA) s) (hP : va_P D cl (am_W cA ad h) H) (hD : va_D A (am_W cA ad h)) (hS : va_S A H0 H locs)
    (hr : am_aast tb op pc lv st h = some (pc', lv', st', h')) (kk : ∀ (H1 : Heap) (locs1 : List Loc), lv = lv' → va_P D cl (am_W cA ad h') H1 → va_D A (am_W cA ad h') → va_S A H0 H1 locs1 → W p l e R s m args below meth c H1 locs1 cells slots Q (F0 m pc' ls (st'.map (am_v ad)))) : W p l e R s m args below meth c H locs cells slots Q (F0 m pc ls (st.map (am_v ad))) := by
  unfold am_aast at hr
  split at hr
  · rename_i x i q r
    split at hr
    · rename_i u n f cj vs hq hv
      split at hr
      · rename_i hz
        obtain ⟨hu, hi⟩ := hz
        cases hr
        have hup : (fun j => (va_up f i.toNatClampNeg (some x) j).map ad) = va_up (fun j => (f j).map ad) i.toNatClampNeg (some (ad x)) := by
          funext j
          by_cases hj : j = i.toNatClampNeg <;> simp [va_up, hj]
        have go : ∀ (H1 : Heap) (locs1 : List Loc), va_P D cl ((am_W cA ad h).set q (ad q, .inl (cA u, n, .inr (.inr (.inr (.inr (va_up (fun j => (f j).map ad) i.toNatClampNeg (some (ad x))))))))) H1 → va_D A ((am_W cA ad h).set q (ad q, .inl (cA u, n, .inr (.inr (.inr (.inr (va_up (fun j => (f j).map ad) i.toNatClampNeg (some (ad x))))))))) → va_S A H0 H1 locs1 → W p l e R s m args below meth c H1 locs1 cells slots Q (F0 m (pc + 1) ls (st'.map (am_v ad))) := fun H1 locs1 a1 a2 a3 => by
          rw [← hup] at a1 a2
          exact kk H1 locs1 rfl (by rw [← am_W_set]; exact a1) (by rw [← am_W_set]; exact a2) a3
        rcases hu with ⟨rfl, rfl⟩ | ⟨rfl, rfl⟩
        · exact va_astq hx hb hK hP hD hS q 4 x cj (am_W_at hq) (by rw [← h4]; exact am_tys_at cA (by decide)) (am_W_at hv) ht hi hd go
        · exact va_astq hx hb hK hP hD hS q 5 x cj (am_W_at hq) (by rw [← h5]; exact am_tys_at cA (by decide)) (am_W_at hv) ho hi hd go
      · cases hr
    · cases hr
  · rename_i i q r
    split at hr
    · rename_i u n f hq
      split at hr
      · rename_i hz
        obtain ⟨hu, hi⟩ := hz
        cases hr
        have hup : (fun j => (va_up f i.toNatClampNeg none j).map ad) = va_up (fun j => (f j).map ad) i.toNatClampNeg none := by
          funext j
          by_cases hj : j = i.toNatClampNeg <;> simp [va_up, hj]
        have go : ∀ (H1 : Heap) (locs1 : List Loc), va_P D cl ((am_W cA ad h).set q (ad q, .inl (cA u, n, .inr (.inr (.inr (.inr (va_up (fun j => (f j).map ad) i.toNatClampNeg none))))))) H1 → va_D A ((am_W cA ad h).set q (ad q, .inl (cA u, n, .inr (.inr (.inr (.inr (va_up (fun j => (f j).map ad) i.toNatClampNeg none))))))) → va_S A H0 H1 locs1 → W p l e R s m args below meth c H1 locs1 cells slots Q (F0 m (pc + 1) ls (st'.map (am_v ad))) := fun H1 locs1 a1 a2 a3 => by
          rw [← hup] at a1 a2
          exact kk H1 locs1 rfl (by rw [← am_W_set]; exact a1) (by rw [← am_W_set]; exact a2) a3
        rcases hu with rfl | rfl
        · exact va_astqN hx hb hK hP hD hS q 4 (am_W_at hq) (by rw [← h4]; exact am_tys_at cA (by decide)) hi hd go
        · exact va_astqN hx hb hK hP hD hS q 5 (am_W_at hq) (by rw [← h5]; exact am_tys_at cA (by decide)) hi hd go
      · cases hr
    · cases hr
  · cases hr
theorem am_A_len (ad : Nat → Nat) (a : vp_A) : (am_A ad a).1 = a.1 := by
  obtain ⟨n, f | f | f | f | f⟩ := a <;> rfl
theorem am_alen_ok (hx : p.tables.exec = Jvm.exec) (hb : c.code = cc) (hd : decode cc pc = .ok (.arraylength, 1)) (hK : va_K D cl (am_tys cA) s) (hP : va_P D cl (am_W cA ad h) H) 
    (hr : am_alen pc lv st h = some (pc', lv', st', h')) (kk : lv = lv' → h = h' → W p l e R s m args below meth c H locs cells slots Q (F0 m pc' ls (st'.map (am_v ad)))) : W p l e R s m args below meth c H locs cells slots Q (F0 m pc ls (st.map (am_v ad))) := by
  unfold am_alen at hr
  split at hr
  · rename_i q r
    split at hr
    · rename_i u a hq
      split at hr
      · rename_i hu
        cases hr
        exact va_alen hx hb hK hP q u (am_W_at hq) (am_tys_at cA hu) (v := Int32.ofNat a.1) (by rw [am_A_len]) hd (kk rfl rfl)
      · cases hr
    · cases hr
  · cases hr
end AMH
