/-! ===== THE PURE MACHINE, part 13b: System.arraycopy is the machine's ===== -/
section AMCP
variable {p : Program} {l : Launch} {e : Env} {R : Room} {s : State} {m : MethodId} {args : Array Value} {below : List Frame} {meth : Method} {c : Code} {H : Heap} {locs : List Loc} {cells slots : Nat} {Q : State → Prop}
variable {cc : ByteArray} {pc pc' : Nat} {ls : Array Slot} {lv lv' : List (Nat × Value)} {st st' : List Value} {ad : Nat → Nat} {cA : Nat → ClassId} {h h' : List am_C}
variable {D : va_G} {cl : List vw_C} {A : Nat → Prop} {H0 : Heap} {Ts : List Cond}
theorem am_cpc_n {n dp sp : Int32} {r : List Value} {c0 c c' : am_C} (hr : am_cpc n dp sp r c0 c = some c') : am_cat r ≤ 8 ∧ (¬ sp < 0 ∧ ¬ dp < 0 ∧ ¬ n < 0) ∧
    ((∃ n0 f n1 g, c0 = .inl (2, n0, .inl f) ∧ c = .inl (2, n1, .inl g) ∧ sp.toNatClampNeg + n.toNatClampNeg ≤ n0 ∧ dp.toNatClampNeg + n.toNatClampNeg ≤ n1 ∧ (∀ i, i < n.toNatClampNeg → fits .byte (.int (f (sp.toNatClampNeg + i))) = true) ∧ c' = .inl (2, n1, .inl (va_cpy f g sp.toNatClampNeg dp.toNatClampNeg n.toNatClampNeg))) ∨
     (∃ n0 f n1 g, c0 = .inl (1, n0, .inr (.inl f)) ∧ c = .inl (1, n1, .inr (.inl g)) ∧ sp.toNatClampNeg + n.toNatClampNeg ≤ n0 ∧ dp.toNatClampNeg + n.toNatClampNeg ≤ n1 ∧ c' = .inl (1, n1, .inr (.inl (va_cpy f g sp.toNatClampNeg dp.toNatClampNeg n.toNatClampNeg))))) := by
  unfold am_cpc at hr
  split at hr
  · split at hr
    · rename_i hz
      obtain ⟨⟨rfl, rfl, h8⟩, ⟨h1, h2, h3, h4, h5⟩, h6⟩ := hz
      cases hr
      exact ⟨h8, ⟨h1, h2, h3⟩, Or.inl ⟨_, _, _, _, rfl, rfl, h4, h5, h6, rfl⟩⟩
    · cases hr
  · split at hr
    · rename_i hz
      obtain ⟨⟨rfl, rfl, h8⟩, h1, h2, h3, h4, h5⟩ := hz
      cases hr
      exact ⟨h8, ⟨h1, h2, h3⟩, Or.inr ⟨_, _, _, _, rfl, rfl, h4, h5, rfl⟩⟩
    · cases hr
  · cases hr
theorem am_copy_n (hr : am_copy pc lv st h = some (pc', lv', st', h')) : ∃ n dp q sp q0 c0 c c', st = .int n :: .int dp :: .ref q :: .int sp :: .ref q0 :: st' ∧ h[q0]? = some c0 ∧ h[q]? = some c ∧ am_cpc n dp sp st' c0 c = some c' ∧ pc' = pc + 3 ∧ lv' = lv ∧ h' = h.set q c' := by
  unfold am_copy at hr
  split at hr
  · split at hr
    · rename_i c0 c h0 h1
      split at hr
      · rename_i c' hc
        cases hr
        exact ⟨_, _, _, _, _, _, _, _, rfl, h0, h1, hc, rfl, rfl, rfl⟩
      · cases hr
    · cases hr
  · cases hr
theorem am_catm0 (ad : Nat → Nat) (st : List Value) : ((st.map (am_v ad)).map fun v => v.category).sum = am_cat st := by
  unfold am_cat
  rw [List.map_map]
  congr 1
  exact List.map_congr_left (fun v _ => am_v_cat ad v)
theorem am_copy_ok {own : String} {idx : Nat} (hx : p.tables.exec = Jvm.exec) (hb : c.code = cc) (hml : c.maxLocals = ls.size) (hd : decode cc pc = .ok (.invokestatic idx, 3)) (hown : s.vm.findClass own = some m.cls)
    (hlink : (Cond.methodLink own idx arraycopyName).before args s = true) (hnat : (Cond.native arraycopyName).before args s = true) (hstat : (Cond.static arraycopyName).before args s = true) (hini : (Cond.initialized "java/lang/System").before args s = true) (hf : 1 ≤ R.frames) (hlo : 100 ≤ R.locals)
    (hK : va_K D cl (am_tys cA) s) (hP : va_P D cl (am_W cA ad h) H) (hD : va_D A (am_W cA ad h)) (hS : va_S A H0 H locs)
    (hr : am_copy pc lv st h = some (pc', lv', st', h')) (kk : ∀ (H1 : Heap) (locs1 : List Loc), lv = lv' → va_P D cl (am_W cA ad h') H1 → va_D A (am_W cA ad h') → va_S A H0 H1 locs1 → W p l e R s m args below meth c H1 locs1 cells slots Q (F0 m pc' ls (st'.map (am_v ad)))) : W p l e R s m args below meth c H locs cells slots Q (F0 m pc ls (st.map (am_v ad))) := by
  obtain ⟨n, dp, q, sp, q0, c0, c1, c', rfl, h0, h1, hc, rfl, rfl, rfl⟩ := am_copy_n hr
  obtain ⟨h8, ⟨z1, z2, z3⟩, hcs⟩ := am_cpc_n hc
  have hl : ((st'.map (am_v ad)).map fun v => v.category).sum + (nativeFrameWords "java/lang/System" "arraycopy" 5 + 11) ≤ R.locals := by
    rw [am_catm0, show nativeFrameWords "java/lang/System" "arraycopy" 5 = 7 by decide]
    omega
  rcases hcs with ⟨n0, f, n1, g, rfl, rfl, z4, z5, z6, rfl⟩ | ⟨n0, f, n1, g, rfl, rfl, z4, z5, rfl⟩
  · exact va_copyi hx hb hml hown hlink hnat hstat hini hK hP hD hS q0 q 2 2 (am_W_at h0) (am_W_at h1) (am_tys_at cA (by decide)) (am_tys_at cA (by decide)) rfl z1 z2 z3 z4 z5 z6 hf hl hd (fun H1 locs1 a1 a2 a3 => kk H1 locs1 rfl (by rw [← am_W_set]; exact a1) (by rw [← am_W_set]; exact a2) a3)
  · exact va_copyl hx hb hml hown hlink hnat hstat hini hK hP hD hS q0 q 1 1 (am_W_at h0) (am_W_at h1) (am_tys_at cA (by decide)) (am_tys_at cA (by decide)) rfl z1 z2 z3 z4 z5 (fun i hi => rfl) hf hl hd (fun H1 locs1 a1 a2 a3 => kk H1 locs1 rfl (by rw [← am_W_set]; exact a1) (by rw [← am_W_set]; exact a2) a3)
theorem am_copy_wf (hw : am_ok3 lv st h) (hr : am_copy pc lv st h = some (pc', lv', st', h')) : am_ok3 lv' st' h' ∧ h.length = h'.length := by
  obtain ⟨hL, hS, hH⟩ := hw
  obtain ⟨n, dp, q, sp, q0, c0, c1, c', rfl, h0, h1, hc, rfl, rfl, rfl⟩ := am_copy_n hr
  have hC : am_okC h.length c' := by
    obtain ⟨-, -, ⟨n0, f, n1, g, rfl, rfl, -, -, -, rfl⟩ | ⟨n0, f, n1, g, rfl, rfl, -, -, rfl⟩⟩ := am_cpc_n hc
    · exact trivial
    · exact trivial
  refine ⟨⟨?_, ?_, ?_⟩, (List.length_set).symm⟩
  · rw [List.length_set]; exact hL
  · rw [List.length_set]; exact (am_okS_c.mp (am_okS_c.mp (am_okS_c.mp (am_okS_c.mp (am_okS_c.mp hS).2).2).2).2).2
  · rw [List.length_set]; exact am_okH_set hH hC
end AMCP
