/-! ===== THE PURE MACHINE, part 2: its instructions are the machine's ===== -/
section AMP
variable {p : Program} {l : Launch} {e : Env} {R : Room} {s : State} {m : MethodId} {args : Array Value} {below : List Frame} {meth : Method} {c : Code} {H : Heap} {locs : List Loc} {cells slots : Nat} {Q : State → Prop}
variable {cc : ByteArray} {pc pc' nL : Nat} {ls : Array Slot} {lv lv' : List (Nat × Value)} {st st' : List Value} {ad : Nat → Nat}
theorem am_push_ok {v : Value} {len : Nat} (row : W p l e R s m args below meth c H locs cells slots Q (F0 m (pc + len) ls (am_v ad v :: st.map (am_v ad))) → W p l e R s m args below meth c H locs cells slots Q (F0 m pc ls (st.map (am_v ad))))
    (hl : lv_has ls nL (am_L ad lv)) (h : am_push v len nL pc lv st = some (pc', lv', st')) (k : ∀ ls' : Array Slot, lv_has ls' nL (am_L ad lv') → W p l e R s m args below meth c H locs cells slots Q (F0 m pc' ls' (st'.map (am_v ad)))) : W p l e R s m args below meth c H locs cells slots Q (F0 m pc ls (st.map (am_v ad))) := by
  cases h
  exact row (k ls hl)
theorem am_iload_ok {i len : Nat} (row : ∀ x : Int32, ls[i]? = some (.val (.int x)) → W p l e R s m args below meth c H locs cells slots Q (F0 m (pc + len) ls (.int x :: st.map (am_v ad))) → W p l e R s m args below meth c H locs cells slots Q (F0 m pc ls (st.map (am_v ad))))
    (hl : lv_has ls nL (am_L ad lv)) (h : am_iload i len nL pc lv st = some (pc', lv', st')) (k : ∀ ls' : Array Slot, lv_has ls' nL (am_L ad lv') → W p l e R s m args below meth c H locs cells slots Q (F0 m pc' ls' (st'.map (am_v ad)))) : W p l e R s m args below meth c H locs cells slots Q (F0 m pc ls (st.map (am_v ad))) := by
  unfold am_iload at h
  split at h
  · rename_i x hx
    cases h
    exact row x (am_get_at hl hx) (k ls hl)
  · cases h
theorem am_lload_ok {i len : Nat} (row : ∀ x : Int64, ls[i]? = some (.val (.long x)) → W p l e R s m args below meth c H locs cells slots Q (F0 m (pc + len) ls (.long x :: st.map (am_v ad))) → W p l e R s m args below meth c H locs cells slots Q (F0 m pc ls (st.map (am_v ad))))
    (hl : lv_has ls nL (am_L ad lv)) (h : am_lload i len nL pc lv st = some (pc', lv', st')) (k : ∀ ls' : Array Slot, lv_has ls' nL (am_L ad lv') → W p l e R s m args below meth c H locs cells slots Q (F0 m pc' ls' (st'.map (am_v ad)))) : W p l e R s m args below meth c H locs cells slots Q (F0 m pc ls (st.map (am_v ad))) := by
  unfold am_lload at h
  split at h
  · rename_i x hx
    cases h
    exact row x (am_get_at hl hx) (k ls hl)
  · cases h
theorem am_aload_ok {i len : Nat} (row : ∀ x : Nat, ls[i]? = some (.val (.ref x)) → W p l e R s m args below meth c H locs cells slots Q (F0 m (pc + len) ls (.ref x :: st.map (am_v ad))) → W p l e R s m args below meth c H locs cells slots Q (F0 m pc ls (st.map (am_v ad))))
    (rowN : ls[i]? = some (.val .null) → W p l e R s m args below meth c H locs cells slots Q (F0 m (pc + len) ls (.null :: st.map (am_v ad))) → W p l e R s m args below meth c H locs cells slots Q (F0 m pc ls (st.map (am_v ad))))
    (hl : lv_has ls nL (am_L ad lv)) (h : am_aload i len nL pc lv st = some (pc', lv', st')) (k : ∀ ls' : Array Slot, lv_has ls' nL (am_L ad lv') → W p l e R s m args below meth c H locs cells slots Q (F0 m pc' ls' (st'.map (am_v ad)))) : W p l e R s m args below meth c H locs cells slots Q (F0 m pc ls (st.map (am_v ad))) := by
  unfold am_aload at h
  split at h
  · rename_i x hx
    cases h
    exact row (ad x) (am_get_at hl hx) (k ls hl)
  · rename_i hx
    cases h
    exact rowN (am_get_at hl hx) (k ls hl)
  · cases h
theorem am_istore_ok {i len : Nat} (row : ∀ (x : Int32) (r : List Value) (lw : List (Nat × Value)), i < nL → (i, Value.int x) :: (am_L ad lv).filter (fun q => !(q.1 == i) && !(q.1 + 1 == i && q.2.category == 2)) = lw → (∀ ls' : Array Slot, lv_has ls' nL lw → W p l e R s m args below meth c H locs cells slots Q (F0 m (pc + len) ls' r)) → W p l e R s m args below meth c H locs cells slots Q (F0 m pc ls (.int x :: r)))
    (h : am_istore i len nL pc lv st = some (pc', lv', st')) (k : ∀ ls' : Array Slot, lv_has ls' nL (am_L ad lv') → W p l e R s m args below meth c H locs cells slots Q (F0 m pc' ls' (st'.map (am_v ad)))) : W p l e R s m args below meth c H locs cells slots Q (F0 m pc ls (st.map (am_v ad))) := by
  unfold am_istore at h
  split at h
  · split at h
    · rename_i hi
      cases h
      exact row _ _ _ hi (am_L_st1 ad i (.int _) lv) k
    · cases h
  · cases h
theorem am_lstore_ok {i len : Nat} (row : ∀ (x : Int64) (r : List Value) (lw : List (Nat × Value)), i + 1 < nL → (i, Value.long x) :: (am_L ad lv).filter (fun q => !(q.1 == i) && (!(q.1 == i + 1) && !(q.1 + 1 == i && q.2.category == 2))) = lw → (∀ ls' : Array Slot, lv_has ls' nL lw → W p l e R s m args below meth c H locs cells slots Q (F0 m (pc + len) ls' r)) → W p l e R s m args below meth c H locs cells slots Q (F0 m pc ls (.long x :: r)))
    (h : am_lstore i len nL pc lv st = some (pc', lv', st')) (k : ∀ ls' : Array Slot, lv_has ls' nL (am_L ad lv') → W p l e R s m args below meth c H locs cells slots Q (F0 m pc' ls' (st'.map (am_v ad)))) : W p l e R s m args below meth c H locs cells slots Q (F0 m pc ls (st.map (am_v ad))) := by
  unfold am_lstore at h
  split at h
  · split at h
    · rename_i hi
      cases h
      exact row _ _ _ hi (am_L_st2 ad i (.long _) lv) k
    · cases h
  · cases h
theorem am_astore_ok {i len : Nat} (row : ∀ (x : Nat) (r : List Value) (lw : List (Nat × Value)), i < nL → (i, Value.ref x) :: (am_L ad lv).filter (fun q => !(q.1 == i) && !(q.1 + 1 == i && q.2.category == 2)) = lw → (∀ ls' : Array Slot, lv_has ls' nL lw → W p l e R s m args below meth c H locs cells slots Q (F0 m (pc + len) ls' r)) → W p l e R s m args below meth c H locs cells slots Q (F0 m pc ls (.ref x :: r)))
    (rowN : ∀ (r : List Value) (lw : List (Nat × Value)), i < nL → (i, Value.null) :: (am_L ad lv).filter (fun q => !(q.1 == i) && !(q.1 + 1 == i && q.2.category == 2)) = lw → (∀ ls' : Array Slot, lv_has ls' nL lw → W p l e R s m args below meth c H locs cells slots Q (F0 m (pc + len) ls' r)) → W p l e R s m args below meth c H locs cells slots Q (F0 m pc ls (.null :: r)))
    (h : am_astore i len nL pc lv st = some (pc', lv', st')) (k : ∀ ls' : Array Slot, lv_has ls' nL (am_L ad lv') → W p l e R s m args below meth c H locs cells slots Q (F0 m pc' ls' (st'.map (am_v ad)))) : W p l e R s m args below meth c H locs cells slots Q (F0 m pc ls (st.map (am_v ad))) := by
  unfold am_astore at h
  split at h
  · split at h
    · rename_i hi
      cases h
      exact row _ _ _ hi (am_L_st1 ad i (.ref _) lv) k
    · cases h
  · split at h
    · rename_i hi
      cases h
      exact rowN _ _ hi (am_L_st1 ad i .null lv) k
    · cases h
  · cases h
theorem am_iinc_ok {i : Nat} {n : Int} (hx : p.tables.exec = Jvm.exec) (hb : c.code = cc) (hd : decode cc pc = .ok (.iinc i n, 3))
    (hl : lv_has ls nL (am_L ad lv)) (h : am_iinc i n nL pc lv st = some (pc', lv', st')) (k : ∀ ls' : Array Slot, lv_has ls' nL (am_L ad lv') → W p l e R s m args below meth c H locs cells slots Q (F0 m pc' ls' (st'.map (am_v ad)))) : W p l e R s m args below meth c H locs cells slots Q (F0 m pc ls (st.map (am_v ad))) := by
  unfold am_iinc at h
  split at h
  · rename_i x hg
    split at h
    · rename_i hi
      cases h
      have hm : (i, Value.int x) ∈ am_L ad lv := List.mem_map.mpr ⟨(i, .int x), am_get_mem hg, rfl⟩
      obtain ⟨j, hj⟩ := List.getElem?_of_mem hm
      exact lv_iinc hx hb hd hl hj rfl hi (am_L_st1 ad i (.int (x + Int32.ofInt n)) lv) k
    · cases h
  · cases h
theorem am_bini_ok {f : Int32 → Int32 → Int32} (row : ∀ (x y : Int32) (r : List Value), W p l e R s m args below meth c H locs cells slots Q (F0 m (pc + 1) ls (.int (f x y) :: r)) → W p l e R s m args below meth c H locs cells slots Q (F0 m pc ls (.int y :: .int x :: r)))
    (hl : lv_has ls nL (am_L ad lv)) (h : am_bini f nL pc lv st = some (pc', lv', st')) (k : ∀ ls' : Array Slot, lv_has ls' nL (am_L ad lv') → W p l e R s m args below meth c H locs cells slots Q (F0 m pc' ls' (st'.map (am_v ad)))) : W p l e R s m args below meth c H locs cells slots Q (F0 m pc ls (st.map (am_v ad))) := by
  unfold am_bini at h
  split at h
  · cases h
    exact row _ _ _ (k ls hl)
  · cases h
theorem am_binl_ok {f : Int64 → Int64 → Int64} (row : ∀ (x y : Int64) (r : List Value), W p l e R s m args below meth c H locs cells slots Q (F0 m (pc + 1) ls (.long (f x y) :: r)) → W p l e R s m args below meth c H locs cells slots Q (F0 m pc ls (.long y :: .long x :: r)))
    (hl : lv_has ls nL (am_L ad lv)) (h : am_binl f nL pc lv st = some (pc', lv', st')) (k : ∀ ls' : Array Slot, lv_has ls' nL (am_L ad lv') → W p l e R s m args below meth c H locs cells slots Q (F0 m pc' ls' (st'.map (am_v ad)))) : W p l e R s m args below meth c H locs cells slots Q (F0 m pc ls (st.map (am_v ad))) := by
  unfold am_binl at h
  split at h
  · cases h
    exact row _ _ _ (k ls hl)
  · cases h
theorem am_shl_ok {f : Int64 → Int32 → Int64} (row : ∀ (x : Int64) (y : Int32) (r : List Value), W p l e R s m args below meth c H locs cells slots Q (F0 m (pc + 1) ls (.long (f x y) :: r)) → W p l e R s m args below meth c H locs cells slots Q (F0 m pc ls (.int y :: .long x :: r)))
    (hl : lv_has ls nL (am_L ad lv)) (h : am_shl f nL pc lv st = some (pc', lv', st')) (k : ∀ ls' : Array Slot, lv_has ls' nL (am_L ad lv') → W p l e R s m args below meth c H locs cells slots Q (F0 m pc' ls' (st'.map (am_v ad)))) : W p l e R s m args below meth c H locs cells slots Q (F0 m pc ls (st.map (am_v ad))) := by
  unfold am_shl at h
  split at h
  · cases h
    exact row _ _ _ (k ls hl)
  · cases h
theorem am_divi_ok {f : Int32 → Int32 → Int32} (row : ∀ (x y : Int32) (r : List Value), ¬ y = 0 → W p l e R s m args below meth c H locs cells slots Q (F0 m (pc + 1) ls (.int (f x y) :: r)) → W p l e R s m args below meth c H locs cells slots Q (F0 m pc ls (.int y :: .int x :: r)))
    (hl : lv_has ls nL (am_L ad lv)) (h : am_divi f nL pc lv st = some (pc', lv', st')) (k : ∀ ls' : Array Slot, lv_has ls' nL (am_L ad lv') → W p l e R s m args below meth c H locs cells slots Q (F0 m pc' ls' (st'.map (am_v ad)))) : W p l e R s m args below meth c H locs cells slots Q (F0 m pc ls (st.map (am_v ad))) := by
  unfold am_divi at h
  split at h
  · split at h
    · cases h
    · rename_i hy
      cases h
      exact row _ _ _ hy (k ls hl)
  · cases h
theorem am_divl_ok {f : Int64 → Int64 → Int64} (row : ∀ (x y : Int64) (r : List Value), ¬ y = 0 → W p l e R s m args below meth c H locs cells slots Q (F0 m (pc + 1) ls (.long (f x y) :: r)) → W p l e R s m args below meth c H locs cells slots Q (F0 m pc ls (.long y :: .long x :: r)))
    (hl : lv_has ls nL (am_L ad lv)) (h : am_divl f nL pc lv st = some (pc', lv', st')) (k : ∀ ls' : Array Slot, lv_has ls' nL (am_L ad lv') → W p l e R s m args below meth c H locs cells slots Q (F0 m pc' ls' (st'.map (am_v ad)))) : W p l e R s m args below meth c H locs cells slots Q (F0 m pc ls (st.map (am_v ad))) := by
  unfold am_divl at h
  split at h
  · split at h
    · cases h
    · rename_i hy
      cases h
      exact row _ _ _ hy (k ls hl)
  · cases h
theorem am_uni_ok {f : Int32 → Int32} (row : ∀ (x : Int32) (r : List Value), W p l e R s m args below meth c H locs cells slots Q (F0 m (pc + 1) ls (.int (f x) :: r)) → W p l e R s m args below meth c H locs cells slots Q (F0 m pc ls (.int x :: r)))
    (hl : lv_has ls nL (am_L ad lv)) (h : am_uni f nL pc lv st = some (pc', lv', st')) (k : ∀ ls' : Array Slot, lv_has ls' nL (am_L ad lv') → W p l e R s m args below meth c H locs cells slots Q (F0 m pc' ls' (st'.map (am_v ad)))) : W p l e R s m args below meth c H locs cells slots Q (F0 m pc ls (st.map (am_v ad))) := by
  unfold am_uni at h
  split at h
  · cases h
    exact row _ _ (k ls hl)
  · cases h
theorem am_i2l_ok (hx : p.tables.exec = Jvm.exec) (hb : c.code = cc) (hd : decode cc pc = .ok (.i2l, 1))
    (hl : lv_has ls nL (am_L ad lv)) (h : am_i2l nL pc lv st = some (pc', lv', st')) (k : ∀ ls' : Array Slot, lv_has ls' nL (am_L ad lv') → W p l e R s m args below meth c H locs cells slots Q (F0 m pc' ls' (st'.map (am_v ad)))) : W p l e R s m args below meth c H locs cells slots Q (F0 m pc ls (st.map (am_v ad))) := by
  unfold am_i2l at h
  split at h
  · cases h
    exact lv_i2l hx hb hd rfl (k ls hl)
  · cases h
theorem am_l2i_ok (hx : p.tables.exec = Jvm.exec) (hb : c.code = cc) (hd : decode cc pc = .ok (.l2i, 1))
    (hl : lv_has ls nL (am_L ad lv)) (h : am_l2i nL pc lv st = some (pc', lv', st')) (k : ∀ ls' : Array Slot, lv_has ls' nL (am_L ad lv') → W p l e R s m args below meth c H locs cells slots Q (F0 m pc' ls' (st'.map (am_v ad)))) : W p l e R s m args below meth c H locs cells slots Q (F0 m pc ls (st.map (am_v ad))) := by
  unfold am_l2i at h
  split at h
  · cases h
    exact lv_l2i hx hb hd rfl (k ls hl)
  · cases h
theorem am_lneg_ok (hx : p.tables.exec = Jvm.exec) (hb : c.code = cc) (hd : decode cc pc = .ok (.lneg, 1))
    (hl : lv_has ls nL (am_L ad lv)) (h : am_lneg nL pc lv st = some (pc', lv', st')) (k : ∀ ls' : Array Slot, lv_has ls' nL (am_L ad lv') → W p l e R s m args below meth c H locs cells slots Q (F0 m pc' ls' (st'.map (am_v ad)))) : W p l e R s m args below meth c H locs cells slots Q (F0 m pc ls (st.map (am_v ad))) := by
  unfold am_lneg at h
  split at h
  · cases h
    exact lv_lneg hx hb hd (k ls hl)
  · cases h
theorem am_lcmp_ok (hx : p.tables.exec = Jvm.exec) (hb : c.code = cc) (hd : decode cc pc = .ok (.lcmp, 1))
    (hl : lv_has ls nL (am_L ad lv)) (h : am_lcmp nL pc lv st = some (pc', lv', st')) (k : ∀ ls' : Array Slot, lv_has ls' nL (am_L ad lv') → W p l e R s m args below meth c H locs cells slots Q (F0 m pc' ls' (st'.map (am_v ad)))) : W p l e R s m args below meth c H locs cells slots Q (F0 m pc ls (st.map (am_v ad))) := by
  unfold am_lcmp at h
  split at h
  · cases h
    exact W.lcmp hx hb hd (k ls hl)
  · cases h
theorem am_dup_ok (hx : p.tables.exec = Jvm.exec) (hb : c.code = cc) (hd : decode cc pc = .ok (.dup, 1))
    (hl : lv_has ls nL (am_L ad lv)) (h : am_dup nL pc lv st = some (pc', lv', st')) (k : ∀ ls' : Array Slot, lv_has ls' nL (am_L ad lv') → W p l e R s m args below meth c H locs cells slots Q (F0 m pc' ls' (st'.map (am_v ad)))) : W p l e R s m args below meth c H locs cells slots Q (F0 m pc ls (st.map (am_v ad))) := by
  unfold am_dup at h
  split at h
  · split at h
    · rename_i hc
      cases h
      exact lv_dup hx hb hd ((am_v_cat ad _).trans hc) (k ls hl)
    · cases h
  · cases h
theorem am_pop_ok (hx : p.tables.exec = Jvm.exec) (hb : c.code = cc) (hd : decode cc pc = .ok (.pop, 1))
    (hl : lv_has ls nL (am_L ad lv)) (h : am_pop nL pc lv st = some (pc', lv', st')) (k : ∀ ls' : Array Slot, lv_has ls' nL (am_L ad lv') → W p l e R s m args below meth c H locs cells slots Q (F0 m pc' ls' (st'.map (am_v ad)))) : W p l e R s m args below meth c H locs cells slots Q (F0 m pc ls (st.map (am_v ad))) := by
  unfold am_pop at h
  split at h
  · split at h
    · rename_i hc
      cases h
      exact lv_pop hx hb hd ((am_v_cat ad _).trans hc) (k ls hl)
    · cases h
  · cases h
theorem am_dup2_ok (hx : p.tables.exec = Jvm.exec) (hb : c.code = cc) (hd : decode cc pc = .ok (.dup2, 1))
    (hl : lv_has ls nL (am_L ad lv)) (h : am_dup2 nL pc lv st = some (pc', lv', st')) (k : ∀ ls' : Array Slot, lv_has ls' nL (am_L ad lv') → W p l e R s m args below meth c H locs cells slots Q (F0 m pc' ls' (st'.map (am_v ad)))) : W p l e R s m args below meth c H locs cells slots Q (F0 m pc ls (st.map (am_v ad))) := by
  unfold am_dup2 at h
  split at h
  · split at h
    · rename_i hc
      cases h
      exact lv_dup2_11 hx hb hd ((am_v_cat ad _).trans hc.1) ((am_v_cat ad _).trans hc.2) (k ls hl)
    · split at h
      · rename_i hc
        cases h
        exact lv_dup2_2 hx hb hd ((am_v_cat ad _).trans hc) (k ls hl)
      · cases h
  · split at h
    · rename_i hc
      cases h
      exact lv_dup2_2 hx hb hd ((am_v_cat ad _).trans hc) (k ls hl)
    · cases h
  · cases h
theorem am_jump_inv {t : Option Nat} {n : Nat} {lw lw' : List (Nat × Value)} {sw sw' : List Value} (h : am_jump t lw sw = some (n, lw', sw')) : t = some n ∧ lw = lw' ∧ sw = sw' := by
  unfold am_jump at h
  split at h
  · cases h
    exact ⟨rfl, rfl, rfl⟩
  · cases h
theorem am_goto_ok {off : Int} (hx : p.tables.exec = Jvm.exec) (hb : c.code = cc) (hd : decode cc pc = .ok (.goto off, 3))
    (hl : lv_has ls nL (am_L ad lv)) (h : am_goto off nL pc lv st = some (pc', lv', st')) (k : ∀ ls' : Array Slot, lv_has ls' nL (am_L ad lv') → W p l e R s m args below meth c H locs cells slots Q (F0 m pc' ls' (st'.map (am_v ad)))) : W p l e R s m args below meth c H locs cells slots Q (F0 m pc ls (st.map (am_v ad))) := by
  obtain ⟨h1, rfl, rfl⟩ := am_jump_inv h
  exact lv_goto hx hb hd (am_to_ok h1) (k ls hl)
theorem am_br_inv {b : Bool} {off : Int} {n : Nat} {lw lw' : List (Nat × Value)} {sw sw' : List Value} (h : am_br b pc off lw sw = some (n, lw', sw')) : lw = lw' ∧ sw = sw' ∧ ∃ t : Nat, (pc : Int) + off = (t : Int) ∧ ((b = true ∧ n = t) ∨ (b = false ∧ n = pc + 3)) := by
  unfold am_br at h
  split at h
  · rename_i t ht
    split at h
    · cases h
      exact ⟨rfl, rfl, _, am_to_ok ht, Or.inl ⟨rfl, rfl⟩⟩
    · cases h
      exact ⟨rfl, rfl, _, am_to_ok ht, Or.inr ⟨rfl, rfl⟩⟩
  · cases h
theorem am_if_ok {o : ClassFile.Cond} {off : Int} (hx : p.tables.exec = Jvm.exec) (hb : c.code = cc) (hd : decode cc pc = .ok (.ifCond o off, 3))
    (hl : lv_has ls nL (am_L ad lv)) (h : am_if o off nL pc lv st = some (pc', lv', st')) (k : ∀ ls' : Array Slot, lv_has ls' nL (am_L ad lv') → W p l e R s m args below meth c H locs cells slots Q (F0 m pc' ls' (st'.map (am_v ad)))) : W p l e R s m args below meth c H locs cells slots Q (F0 m pc ls (st.map (am_v ad))) := by
  unfold am_if at h
  split at h
  · obtain ⟨rfl, rfl, t, ht, h3⟩ := am_br_inv h
    have go := k ls hl
    rcases h3 with ⟨hb1, rfl⟩ | ⟨hb1, rfl⟩
    · cases o <;> simp only [am_c0, am_c2, decide_eq_true_eq] at hb1
      · exact lv_if_eq hx hb hd ht (fun _ => go) (fun z => absurd hb1 z)
      · exact lv_if_ne hx hb hd ht (fun _ => go) (fun z => absurd z hb1)
      · exact lv_if_lt hx hb hd ht (fun _ => go) (fun z => absurd hb1 z)
      · exact lv_if_ge hx hb hd ht (fun _ => go) (fun z => absurd hb1 z)
      · exact lv_if_gt hx hb hd ht (fun _ => go) (fun z => absurd hb1 z)
      · exact lv_if_le hx hb hd ht (fun _ => go) (fun z => absurd hb1 z)
    · cases o <;> simp only [am_c0, am_c2, decide_eq_false_iff_not, Classical.not_not] at hb1
      · exact lv_if_eq hx hb hd ht (fun z => absurd z hb1) (fun _ => go)
      · exact lv_if_ne hx hb hd ht (fun z => absurd hb1 z) (fun _ => go)
      · exact lv_if_lt hx hb hd ht (fun z => absurd z hb1) (fun _ => go)
      · exact lv_if_ge hx hb hd ht (fun z => absurd z hb1) (fun _ => go)
      · exact lv_if_gt hx hb hd ht (fun z => absurd z hb1) (fun _ => go)
      · exact lv_if_le hx hb hd ht (fun z => absurd z hb1) (fun _ => go)
  · cases h
theorem am_icmp_ok {o : ClassFile.Cond} {off : Int} (hx : p.tables.exec = Jvm.exec) (hb : c.code = cc) (hd : decode cc pc = .ok (.if_icmp o off, 3))
    (hl : lv_has ls nL (am_L ad lv)) (h : am_icmp o off nL pc lv st = some (pc', lv', st')) (k : ∀ ls' : Array Slot, lv_has ls' nL (am_L ad lv') → W p l e R s m args below meth c H locs cells slots Q (F0 m pc' ls' (st'.map (am_v ad)))) : W p l e R s m args below meth c H locs cells slots Q (F0 m pc ls (st.map (am_v ad))) := by
  unfold am_icmp at h
  split at h
  · obtain ⟨rfl, rfl, t, ht, h3⟩ := am_br_inv h
    have go := k ls hl
    rcases h3 with ⟨hb1, rfl⟩ | ⟨hb1, rfl⟩
    · cases o <;> simp only [am_c0, am_c2, decide_eq_true_eq] at hb1
      · exact lv_icmp_eq hx hb hd ht (fun _ => go) (fun z => absurd hb1 z)
      · exact lv_icmp_ne hx hb hd ht (fun _ => go) (fun z => absurd z hb1)
      · exact lv_icmp_lt hx hb hd ht (fun _ => go) (fun z => absurd hb1 z)
      · exact lv_icmp_ge hx hb hd ht (fun _ => go) (fun z => absurd hb1 z)
      · exact lv_icmp_gt hx hb hd ht (fun _ => go) (fun z => absurd hb1 z)
      · exact lv_icmp_le hx hb hd ht (fun _ => go) (fun z => absurd hb1 z)
    · cases o <;> simp only [am_c0, am_c2, decide_eq_false_iff_not, Classical.not_not] at hb1
      · exact lv_icmp_eq hx hb hd ht (fun z => absurd z hb1) (fun _ => go)
      · exact lv_icmp_ne hx hb hd ht (fun z => absurd hb1 z) (fun _ => go)
      · exact lv_icmp_lt hx hb hd ht (fun z => absurd z hb1) (fun _ => go)
      · exact lv_icmp_ge hx hb hd ht (fun z => absurd z hb1) (fun _ => go)
      · exact lv_icmp_gt hx hb hd ht (fun z => absurd z hb1) (fun _ => go)
      · exact lv_icmp_le hx hb hd ht (fun z => absurd z hb1) (fun _ => go)
  · cases h
theorem am_ifnull_ok {off : Int} (hx : p.tables.exec = Jvm.exec) (hb : c.code = cc) (hd : decode cc pc = .ok (.ifnull off, 3))
    (hl : lv_has ls nL (am_L ad lv)) (h : am_ifnull off nL pc lv st = some (pc', lv', st')) (k : ∀ ls' : Array Slot, lv_has ls' nL (am_L ad lv') → W p l e R s m args below meth c H locs cells slots Q (F0 m pc' ls' (st'.map (am_v ad)))) : W p l e R s m args below meth c H locs cells slots Q (F0 m pc ls (st.map (am_v ad))) := by
  unfold am_ifnull at h
  split at h
  · obtain ⟨h1, rfl, rfl⟩ := am_jump_inv h
    exact lv_ifnullN hx hb hd (am_to_ok h1) (k ls hl)
  · cases h
    exact lv_ifnull hx hb hd (k ls hl)
  · cases h
theorem am_ifnonnull_ok {off : Int} (hx : p.tables.exec = Jvm.exec) (hb : c.code = cc) (hd : decode cc pc = .ok (.ifnonnull off, 3))
    (hl : lv_has ls nL (am_L ad lv)) (h : am_ifnonnull off nL pc lv st = some (pc', lv', st')) (k : ∀ ls' : Array Slot, lv_has ls' nL (am_L ad lv') → W p l e R s m args below meth c H locs cells slots Q (F0 m pc' ls' (st'.map (am_v ad)))) : W p l e R s m args below meth c H locs cells slots Q (F0 m pc ls (st.map (am_v ad))) := by
  unfold am_ifnonnull at h
  split at h
  · obtain ⟨h1, rfl, rfl⟩ := am_jump_inv h
    exact lv_ifnonnull hx hb hd (am_to_ok h1) (k ls hl)
  · cases h
    exact lv_ifnonnullN hx hb hd (k ls hl)
  · cases h
theorem am_lookup_ok {dflt : Int} {ps : Array (Int × Int)} {len : Nat} (hp : (ps.toList.zip (ps.toList.drop 1)).all (fun (a, next) => a.1 < next.1) = true) (hx : p.tables.exec = Jvm.exec) (hb : c.code = cc) (hd : decode cc pc = .ok (.lookupswitch dflt ps, len))
    (hl : lv_has ls nL (am_L ad lv)) (h : am_lookup dflt ps nL pc lv st = some (pc', lv', st')) (k : ∀ ls' : Array Slot, lv_has ls' nL (am_L ad lv') → W p l e R s m args below meth c H locs cells slots Q (F0 m pc' ls' (st'.map (am_v ad)))) : W p l e R s m args below meth c H locs cells slots Q (F0 m pc ls (st.map (am_v ad))) := by
  unfold am_lookup at h
  split at h
  · obtain ⟨h1, rfl, rfl⟩ := am_jump_inv h
    exact lv_lookup hx hb hd hp rfl (am_to_ok h1) (k ls hl)
  · cases h
theorem am_table_ok {dflt lo hi : Int} {offs : Array Int} {len : Nat} (hx : p.tables.exec = Jvm.exec) (hb : c.code = cc) (hd : decode cc pc = .ok (.tableswitch dflt lo hi offs, len))
    (hl : lv_has ls nL (am_L ad lv)) (h : am_table dflt lo hi offs nL pc lv st = some (pc', lv', st')) (k : ∀ ls' : Array Slot, lv_has ls' nL (am_L ad lv') → W p l e R s m args below meth c H locs cells slots Q (F0 m pc' ls' (st'.map (am_v ad)))) : W p l e R s m args below meth c H locs cells slots Q (F0 m pc ls (st.map (am_v ad))) := by
  unfold am_table at h
  split at h
  · split at h
    · rename_i hc
      obtain ⟨h1, rfl, rfl⟩ := am_jump_inv h
      exact lv_tableOut hx hb hd hc (am_to_ok h1) (k ls hl)
    · rename_i hc
      split at h
      · rename_i off ho
        obtain ⟨h1, rfl, rfl⟩ := am_jump_inv h
        exact lv_tableIn hx hb hd (fun z => hc (Or.inl z)) (fun z => hc (Or.inr z)) ho (am_to_ok h1) (k ls hl)
      · cases h
  · cases h
theorem am_pure_ok {i : Instr} {len : Nat} (hx : p.tables.exec = Jvm.exec) (hb : c.code = cc) (hd : decode cc pc = .ok (i, len)) (hn : am_len i len = true)
    (hl : lv_has ls nL (am_L ad lv)) (h : am_pure i len nL pc lv st = some (pc', lv', st')) (k : ∀ ls' : Array Slot, lv_has ls' nL (am_L ad lv') → W p l e R s m args below meth c H locs cells slots Q (F0 m pc' ls' (st'.map (am_v ad)))) : W p l e R s m args below meth c H locs cells slots Q (F0 m pc ls (st.map (am_v ad))) := by
  cases i with
  | iconst n =>
    have hn := eq_of_beq hn
    subst hn
    exact am_push_ok (lv_iconst hx hb hd rfl) hl h k
  | bipush n =>
    have hn := eq_of_beq hn
    subst hn
    exact am_push_ok (lv_bipush hx hb hd rfl) hl h k
  | sipush n =>
    have hn := eq_of_beq hn
    subst hn
    exact am_push_ok (lv_sipush hx hb hd rfl) hl h k
  | lconst n =>
    have hn := eq_of_beq hn
    subst hn
    exact am_push_ok (lv_lconst hx hb hd rfl) hl h k
  | aconst_null =>
    have hn := eq_of_beq hn
    subst hn
    exact am_push_ok (lv_null hx hb hd) hl h k
  | iload_n j =>
    have hn := eq_of_beq hn
    subst hn
    exact am_iload_ok (fun _ hg z => lv_iload_n hx hb hd rfl hg z) hl h k
  | iload j =>
    have hn := eq_of_beq hn
    subst hn
    exact am_iload_ok (fun _ hg z => lv_iload hx hb hd hg z) hl h k
  | lload_n j =>
    have hn := eq_of_beq hn
    subst hn
    exact am_lload_ok (fun _ hg z => lv_lload_n hx hb hd rfl hg z) hl h k
  | lload j =>
    have hn := eq_of_beq hn
    subst hn
    exact am_lload_ok (fun _ hg z => lv_lload hx hb hd hg z) hl h k
  | aload_n j =>
    have hn := eq_of_beq hn
    subst hn
    exact am_aload_ok (fun _ hg z => lv_aload_n hx hb hd rfl hg z) (fun hg z => lv_aload_nN hx hb hd rfl hg z) hl h k
  | aload j =>
    have hn := eq_of_beq hn
    subst hn
    exact am_aload_ok (fun _ hg z => lv_aload hx hb hd hg z) (fun hg z => lv_aloadN hx hb hd hg z) hl h k
  | istore_n j =>
    have hn := eq_of_beq hn
    subst hn
    exact am_istore_ok (fun _ _ _ hi e z => lv_istore_n hx hb hd rfl hl hi e z) h k
  | istore j =>
    have hn := eq_of_beq hn
    subst hn
    exact am_istore_ok (fun _ _ _ hi e z => lv_istore hx hb hd hl hi e z) h k
  | lstore_n j =>
    have hn := eq_of_beq hn
    subst hn
    exact am_lstore_ok (fun _ _ _ hi e z => lv_lstore_n hx hb hd rfl hl hi e z) h k
  | lstore j =>
    have hn := eq_of_beq hn
    subst hn
    exact am_lstore_ok (fun _ _ _ hi e z => lv_lstore hx hb hd hl hi e z) h k
  | astore_n j =>
    have hn := eq_of_beq hn
    subst hn
    exact am_astore_ok (fun _ _ _ hi e z => lv_astore_n hx hb hd rfl hl hi e z) (fun _ _ hi e z => lv_astore_nN hx hb hd rfl hl hi e z) h k
  | astore j =>
    have hn := eq_of_beq hn
    subst hn
    exact am_astore_ok (fun _ _ _ hi e z => lv_astore hx hb hd hl hi e z) (fun _ _ hi e z => lv_astoreN hx hb hd hl hi e z) h k
  | iinc j n =>
    have hn := eq_of_beq hn
    subst hn
    exact am_iinc_ok hx hb hd hl h k
  | iadd =>
    have hn := eq_of_beq hn
    subst hn
    exact am_bini_ok (fun _ _ _ z => lv_iadd hx hb hd z) hl h k
  | isub =>
    have hn := eq_of_beq hn
    subst hn
    exact am_bini_ok (fun _ _ _ z => lv_isub hx hb hd z) hl h k
  | imul =>
    have hn := eq_of_beq hn
    subst hn
    exact am_bini_ok (fun _ _ _ z => lv_imul hx hb hd z) hl h k
  | iand =>
    have hn := eq_of_beq hn
    subst hn
    exact am_bini_ok (fun _ _ _ z => lv_iand hx hb hd z) hl h k
  | ior =>
    have hn := eq_of_beq hn
    subst hn
    exact am_bini_ok (fun _ _ _ z => lv_ior hx hb hd z) hl h k
  | ixor =>
    have hn := eq_of_beq hn
    subst hn
    exact am_bini_ok (fun _ _ _ z => lv_ixor hx hb hd z) hl h k
  | ishl =>
    have hn := eq_of_beq hn
    subst hn
    exact am_bini_ok (fun _ _ _ z => lv_ishl hx hb hd z) hl h k
  | ishr =>
    have hn := eq_of_beq hn
    subst hn
    exact am_bini_ok (fun _ _ _ z => lv_ishr hx hb hd z) hl h k
  | iushr =>
    have hn := eq_of_beq hn
    subst hn
    exact am_bini_ok (fun _ _ _ z => lv_iushr hx hb hd rfl z) hl h k
  | idiv =>
    have hn := eq_of_beq hn
    subst hn
    exact am_divi_ok (fun _ _ _ hy z => lv_idiv hx hb hd hy z) hl h k
  | irem =>
    have hn := eq_of_beq hn
    subst hn
    exact am_divi_ok (fun _ _ _ hy z => lv_irem hx hb hd hy z) hl h k
  | ladd =>
    have hn := eq_of_beq hn
    subst hn
    exact am_binl_ok (fun _ _ _ z => lv_ladd hx hb hd z) hl h k
  | lsub =>
    have hn := eq_of_beq hn
    subst hn
    exact am_binl_ok (fun _ _ _ z => lv_lsub hx hb hd z) hl h k
  | lmul =>
    have hn := eq_of_beq hn
    subst hn
    exact am_binl_ok (fun _ _ _ z => lv_lmul hx hb hd z) hl h k
  | land =>
    have hn := eq_of_beq hn
    subst hn
    exact am_binl_ok (fun _ _ _ z => lv_land hx hb hd z) hl h k
  | lor =>
    have hn := eq_of_beq hn
    subst hn
    exact am_binl_ok (fun _ _ _ z => lv_lor hx hb hd z) hl h k
  | lxor =>
    have hn := eq_of_beq hn
    subst hn
    exact am_binl_ok (fun _ _ _ z => lv_lxor hx hb hd z) hl h k
  | ldiv =>
    have hn := eq_of_beq hn
    subst hn
    exact am_divl_ok (fun _ _ _ hy z => lv_ldiv hx hb hd hy z) hl h k
  | lrem =>
    have hn := eq_of_beq hn
    subst hn
    exact am_divl_ok (fun _ _ _ hy z => lv_lrem hx hb hd hy z) hl h k
  | lshl =>
    have hn := eq_of_beq hn
    subst hn
    exact am_shl_ok (fun _ _ _ z => lv_lshl hx hb hd rfl z) hl h k
  | lshr =>
    have hn := eq_of_beq hn
    subst hn
    exact am_shl_ok (fun _ _ _ z => lv_lshr hx hb hd rfl z) hl h k
  | lushr =>
    have hn := eq_of_beq hn
    subst hn
    exact am_shl_ok (fun _ _ _ z => lv_lushr hx hb hd rfl z) hl h k
  | ineg =>
    have hn := eq_of_beq hn
    subst hn
    exact am_uni_ok (fun _ _ z => lv_ineg hx hb hd z) hl h k
  | i2b =>
    have hn := eq_of_beq hn
    subst hn
    exact am_uni_ok (fun _ _ z => lv_i2b hx hb hd rfl z) hl h k
  | i2s =>
    have hn := eq_of_beq hn
    subst hn
    exact am_uni_ok (fun _ _ z => lv_i2s hx hb hd rfl z) hl h k
  | i2c =>
    have hn := eq_of_beq hn
    subst hn
    exact am_uni_ok (fun _ _ z => lv_i2c hx hb hd rfl z) hl h k
  | i2l =>
    have hn := eq_of_beq hn
    subst hn
    exact am_i2l_ok hx hb hd hl h k
  | l2i =>
    have hn := eq_of_beq hn
    subst hn
    exact am_l2i_ok hx hb hd hl h k
  | lneg =>
    have hn := eq_of_beq hn
    subst hn
    exact am_lneg_ok hx hb hd hl h k
  | lcmp =>
    have hn := eq_of_beq hn
    subst hn
    exact am_lcmp_ok hx hb hd hl h k
  | dup =>
    have hn := eq_of_beq hn
    subst hn
    exact am_dup_ok hx hb hd hl h k
  | pop =>
    have hn := eq_of_beq hn
    subst hn
    exact am_pop_ok hx hb hd hl h k
  | dup2 =>
    have hn := eq_of_beq hn
    subst hn
    exact am_dup2_ok hx hb hd hl h k
  | ifCond o off =>
    have hn := eq_of_beq hn
    subst hn
    exact am_if_ok hx hb hd hl h k
  | if_icmp o off =>
    have hn := eq_of_beq hn
    subst hn
    exact am_icmp_ok hx hb hd hl h k
  | goto off =>
    have hn := eq_of_beq hn
    subst hn
    exact am_goto_ok hx hb hd hl h k
  | ifnull off =>
    have hn := eq_of_beq hn
    subst hn
    exact am_ifnull_ok hx hb hd hl h k
  | ifnonnull off =>
    have hn := eq_of_beq hn
    subst hn
    exact am_ifnonnull_ok hx hb hd hl h k
  | lookupswitch d ps => exact am_lookup_ok hn hx hb hd hl h k
  | tableswitch d lo hi offs => exact am_table_ok hx hb hd hl h k
  | _ => cases h
end AMP
