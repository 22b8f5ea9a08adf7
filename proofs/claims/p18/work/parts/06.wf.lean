/-! ===== THE PURE MACHINE, part 6: references stay references of cells that are there ===== -/
theorem am_okS_c {n : Nat} {v : Value} {st : List Value} : am_okS n (v :: st) ↔ am_okv n v ∧ am_okS n st := List.forall_mem_cons
theorem am_okL_st1 {n i : Nat} {v : Value} {lv : List (Nat × Value)} (h : am_okL n lv) (hv : am_okv n v) : am_okL n (am_st1 i v lv) := by
  intro q hq
  rcases List.mem_cons.mp hq with rfl | hq
  · exact hv
  · exact h q (List.mem_filter.mp hq).1
theorem am_okL_st2 {n i : Nat} {v : Value} {lv : List (Nat × Value)} (h : am_okL n lv) (hv : am_okv n v) : am_okL n (am_st2 i v lv) := by
  intro q hq
  rcases List.mem_cons.mp hq with rfl | hq
  · exact hv
  · exact h q (List.mem_filter.mp hq).1
theorem am_okL_get {n i : Nat} {v : Value} {lv : List (Nat × Value)} (h : am_okL n lv) (hg : am_get lv i = some v) : am_okv n v := h (i, v) (am_get_mem hg)
theorem am_ok_i (n : Nat) (x : Int32) : am_okv n (.int x) := trivial
theorem am_ok_l (n : Nat) (x : Int64) : am_okv n (.long x) := trivial
theorem am_ok_n (n : Nat) : am_okv n .null := trivial
section AMWF
variable {n nL pc pc' len i : Nat} {lv lv' : List (Nat × Value)} {st st' : List Value}
theorem am_push_wf {v : Value} (hv : am_okv n v) (hL : am_okL n lv) (hS : am_okS n st) (h : am_push v len nL pc lv st = some (pc', lv', st')) : am_okL n lv' ∧ am_okS n st' := by
  cases h
  exact ⟨hL, am_okS_c.mpr ⟨hv, hS⟩⟩
theorem am_iload_wf (hL : am_okL n lv) (hS : am_okS n st) (h : am_iload i len nL pc lv st = some (pc', lv', st')) : am_okL n lv' ∧ am_okS n st' := by
  unfold am_iload at h
  split at h
  · cases h
    exact ⟨hL, am_okS_c.mpr ⟨trivial, hS⟩⟩
  · cases h
theorem am_lload_wf (hL : am_okL n lv) (hS : am_okS n st) (h : am_lload i len nL pc lv st = some (pc', lv', st')) : am_okL n lv' ∧ am_okS n st' := by
  unfold am_lload at h
  split at h
  · cases h
    exact ⟨hL, am_okS_c.mpr ⟨trivial, hS⟩⟩
  · cases h
theorem am_aload_wf (hL : am_okL n lv) (hS : am_okS n st) (h : am_aload i len nL pc lv st = some (pc', lv', st')) : am_okL n lv' ∧ am_okS n st' := by
  unfold am_aload at h
  split at h
  · rename_i hg
    cases h
    exact ⟨hL, am_okS_c.mpr ⟨am_okL_get hL hg, hS⟩⟩
  · cases h
    exact ⟨hL, am_okS_c.mpr ⟨trivial, hS⟩⟩
  · cases h
theorem am_istore_wf (hL : am_okL n lv) (hS : am_okS n st) (h : am_istore i len nL pc lv st = some (pc', lv', st')) : am_okL n lv' ∧ am_okS n st' := by
  unfold am_istore at h
  split at h
  · split at h
    · cases h
      exact ⟨am_okL_st1 hL trivial, (am_okS_c.mp hS).2⟩
    · cases h
  · cases h
theorem am_lstore_wf (hL : am_okL n lv) (hS : am_okS n st) (h : am_lstore i len nL pc lv st = some (pc', lv', st')) : am_okL n lv' ∧ am_okS n st' := by
  unfold am_lstore at h
  split at h
  · split at h
    · cases h
      exact ⟨am_okL_st2 hL trivial, (am_okS_c.mp hS).2⟩
    · cases h
  · cases h
theorem am_astore_wf (hL : am_okL n lv) (hS : am_okS n st) (h : am_astore i len nL pc lv st = some (pc', lv', st')) : am_okL n lv' ∧ am_okS n st' := by
  unfold am_astore at h
  split at h
  · split at h
    · cases h
      exact ⟨am_okL_st1 hL (am_okS_c.mp hS).1, (am_okS_c.mp hS).2⟩
    · cases h
  · split at h
    · cases h
      exact ⟨am_okL_st1 hL trivial, (am_okS_c.mp hS).2⟩
    · cases h
  · cases h
theorem am_iinc_wf {z : Int} (hL : am_okL n lv) (hS : am_okS n st) (h : am_iinc i z nL pc lv st = some (pc', lv', st')) : am_okL n lv' ∧ am_okS n st' := by
  unfold am_iinc at h
  split at h
  · split at h
    · cases h
      exact ⟨am_okL_st1 hL trivial, hS⟩
    · cases h
  · cases h
theorem am_bini_wf {f : Int32 → Int32 → Int32} (hL : am_okL n lv) (hS : am_okS n st) (h : am_bini f nL pc lv st = some (pc', lv', st')) : am_okL n lv' ∧ am_okS n st' := by
  unfold am_bini at h
  split at h
  · cases h
    exact ⟨hL, am_okS_c.mpr ⟨trivial, (am_okS_c.mp (am_okS_c.mp hS).2).2⟩⟩
  · cases h
theorem am_binl_wf {f : Int64 → Int64 → Int64} (hL : am_okL n lv) (hS : am_okS n st) (h : am_binl f nL pc lv st = some (pc', lv', st')) : am_okL n lv' ∧ am_okS n st' := by
  unfold am_binl at h
  split at h
  · cases h
    exact ⟨hL, am_okS_c.mpr ⟨trivial, (am_okS_c.mp (am_okS_c.mp hS).2).2⟩⟩
  · cases h
theorem am_shl_wf {f : Int64 → Int32 → Int64} (hL : am_okL n lv) (hS : am_okS n st) (h : am_shl f nL pc lv st = some (pc', lv', st')) : am_okL n lv' ∧ am_okS n st' := by
  unfold am_shl at h
  split at h
  · cases h
    exact ⟨hL, am_okS_c.mpr ⟨trivial, (am_okS_c.mp (am_okS_c.mp hS).2).2⟩⟩
  · cases h
theorem am_divi_wf {f : Int32 → Int32 → Int32} (hL : am_okL n lv) (hS : am_okS n st) (h : am_divi f nL pc lv st = some (pc', lv', st')) : am_okL n lv' ∧ am_okS n st' := by
  unfold am_divi at h
  split at h
  · split at h
    · cases h
    · cases h
      exact ⟨hL, am_okS_c.mpr ⟨trivial, (am_okS_c.mp (am_okS_c.mp hS).2).2⟩⟩
  · cases h
theorem am_divl_wf {f : Int64 → Int64 → Int64} (hL : am_okL n lv) (hS : am_okS n st) (h : am_divl f nL pc lv st = some (pc', lv', st')) : am_okL n lv' ∧ am_okS n st' := by
  unfold am_divl at h
  split at h
  · split at h
    · cases h
    · cases h
      exact ⟨hL, am_okS_c.mpr ⟨trivial, (am_okS_c.mp (am_okS_c.mp hS).2).2⟩⟩
  · cases h
theorem am_uni_wf {f : Int32 → Int32} (hL : am_okL n lv) (hS : am_okS n st) (h : am_uni f nL pc lv st = some (pc', lv', st')) : am_okL n lv' ∧ am_okS n st' := by
  unfold am_uni at h
  split at h
  · cases h
    exact ⟨hL, am_okS_c.mpr ⟨trivial, (am_okS_c.mp hS).2⟩⟩
  · cases h
theorem am_i2l_wf (hL : am_okL n lv) (hS : am_okS n st) (h : am_i2l nL pc lv st = some (pc', lv', st')) : am_okL n lv' ∧ am_okS n st' := by
  unfold am_i2l at h
  split at h
  · cases h
    exact ⟨hL, am_okS_c.mpr ⟨trivial, (am_okS_c.mp hS).2⟩⟩
  · cases h
theorem am_l2i_wf (hL : am_okL n lv) (hS : am_okS n st) (h : am_l2i nL pc lv st = some (pc', lv', st')) : am_okL n lv' ∧ am_okS n st' := by
  unfold am_l2i at h
  split at h
  · cases h
    exact ⟨hL, am_okS_c.mpr ⟨trivial, (am_okS_c.mp hS).2⟩⟩
  · cases h
theorem am_lneg_wf (hL : am_okL n lv) (hS : am_okS n st) (h : am_lneg nL pc lv st = some (pc', lv', st')) : am_okL n lv' ∧ am_okS n st' := by
  unfold am_lneg at h
  split at h
  · cases h
    exact ⟨hL, am_okS_c.mpr ⟨trivial, (am_okS_c.mp hS).2⟩⟩
  · cases h
theorem am_lcmp_wf (hL : am_okL n lv) (hS : am_okS n st) (h : am_lcmp nL pc lv st = some (pc', lv', st')) : am_okL n lv' ∧ am_okS n st' := by
  unfold am_lcmp at h
  split at h
  · cases h
    exact ⟨hL, am_okS_c.mpr ⟨trivial, (am_okS_c.mp (am_okS_c.mp hS).2).2⟩⟩
  · cases h
theorem am_dup_wf (hL : am_okL n lv) (hS : am_okS n st) (h : am_dup nL pc lv st = some (pc', lv', st')) : am_okL n lv' ∧ am_okS n st' := by
  unfold am_dup at h
  split at h
  · split at h
    · cases h
      exact ⟨hL, am_okS_c.mpr ⟨(am_okS_c.mp hS).1, hS⟩⟩
    · cases h
  · cases h
theorem am_pop_wf (hL : am_okL n lv) (hS : am_okS n st) (h : am_pop nL pc lv st = some (pc', lv', st')) : am_okL n lv' ∧ am_okS n st' := by
  unfold am_pop at h
  split at h
  · split at h
    · cases h
      exact ⟨hL, (am_okS_c.mp hS).2⟩
    · cases h
  · cases h
theorem am_dup2_wf (hL : am_okL n lv) (hS : am_okS n st) (h : am_dup2 nL pc lv st = some (pc', lv', st')) : am_okL n lv' ∧ am_okS n st' := by
  unfold am_dup2 at h
  split at h
  · split at h
    · cases h
      exact ⟨hL, am_okS_c.mpr ⟨(am_okS_c.mp hS).1, am_okS_c.mpr ⟨(am_okS_c.mp (am_okS_c.mp hS).2).1, hS⟩⟩⟩
    · split at h
      · cases h
        exact ⟨hL, am_okS_c.mpr ⟨(am_okS_c.mp hS).1, hS⟩⟩
      · cases h
  · split at h
    · cases h
      exact ⟨hL, am_okS_c.mpr ⟨(am_okS_c.mp hS).1, hS⟩⟩
    · cases h
  · cases h
theorem am_if_wf {o : ClassFile.Cond} {off : Int} (hL : am_okL n lv) (hS : am_okS n st) (h : am_if o off nL pc lv st = some (pc', lv', st')) : am_okL n lv' ∧ am_okS n st' := by
  unfold am_if at h
  split at h
  · obtain ⟨rfl, rfl, -⟩ := am_br_inv h
    exact ⟨hL, (am_okS_c.mp hS).2⟩
  · cases h
theorem am_icmp_wf {o : ClassFile.Cond} {off : Int} (hL : am_okL n lv) (hS : am_okS n st) (h : am_icmp o off nL pc lv st = some (pc', lv', st')) : am_okL n lv' ∧ am_okS n st' := by
  unfold am_icmp at h
  split at h
  · obtain ⟨rfl, rfl, -⟩ := am_br_inv h
    exact ⟨hL, (am_okS_c.mp (am_okS_c.mp hS).2).2⟩
  · cases h
theorem am_goto_wf {off : Int} (hL : am_okL n lv) (hS : am_okS n st) (h : am_goto off nL pc lv st = some (pc', lv', st')) : am_okL n lv' ∧ am_okS n st' := by
  obtain ⟨-, rfl, rfl⟩ := am_jump_inv h
  exact ⟨hL, hS⟩
theorem am_ifnull_wf {off : Int} (hL : am_okL n lv) (hS : am_okS n st) (h : am_ifnull off nL pc lv st = some (pc', lv', st')) : am_okL n lv' ∧ am_okS n st' := by
  unfold am_ifnull at h
  split at h
  · obtain ⟨-, rfl, rfl⟩ := am_jump_inv h
    exact ⟨hL, (am_okS_c.mp hS).2⟩
  · cases h
    exact ⟨hL, (am_okS_c.mp hS).2⟩
  · cases h
theorem am_ifnonnull_wf {off : Int} (hL : am_okL n lv) (hS : am_okS n st) (h : am_ifnonnull off nL pc lv st = some (pc', lv', st')) : am_okL n lv' ∧ am_okS n st' := by
  unfold am_ifnonnull at h
  split at h
  · obtain ⟨-, rfl, rfl⟩ := am_jump_inv h
    exact ⟨hL, (am_okS_c.mp hS).2⟩
  · cases h
    exact ⟨hL, (am_okS_c.mp hS).2⟩
  · cases h
theorem am_lookup_wf {d : Int} {ps : Array (Int × Int)} (hL : am_okL n lv) (hS : am_okS n st) (h : am_lookup d ps nL pc lv st = some (pc', lv', st')) : am_okL n lv' ∧ am_okS n st' := by
  unfold am_lookup at h
  split at h
  · obtain ⟨-, rfl, rfl⟩ := am_jump_inv h
    exact ⟨hL, (am_okS_c.mp hS).2⟩
  · cases h
theorem am_table_wf {d lo hi : Int} {offs : Array Int} (hL : am_okL n lv) (hS : am_okS n st) (h : am_table d lo hi offs nL pc lv st = some (pc', lv', st')) : am_okL n lv' ∧ am_okS n st' := by
  unfold am_table at h
  split at h
  · split at h
    · obtain ⟨-, rfl, rfl⟩ := am_jump_inv h
      exact ⟨hL, (am_okS_c.mp hS).2⟩
    · split at h
      · obtain ⟨-, rfl, rfl⟩ := am_jump_inv h
        exact ⟨hL, (am_okS_c.mp hS).2⟩
      · cases h
  · cases h
theorem am_pure_wf {x : Instr} (hL : am_okL n lv) (hS : am_okS n st) (h : am_pure x len nL pc lv st = some (pc', lv', st')) : am_okL n lv' ∧ am_okS n st' := by
  cases x with
  | iconst z => exact am_push_wf (nL := nL) (am_ok_i n _) hL hS h
  | bipush z => exact am_push_wf (nL := nL) (am_ok_i n _) hL hS h
  | sipush z => exact am_push_wf (nL := nL) (am_ok_i n _) hL hS h
  | lconst z => exact am_push_wf (nL := nL) (am_ok_l n _) hL hS h
  | aconst_null => exact am_push_wf (nL := nL) (am_ok_n n) hL hS h
  | iload_n z => exact am_iload_wf (nL := nL) hL hS h
  | iload z => exact am_iload_wf (nL := nL) hL hS h
  | lload_n z => exact am_lload_wf (nL := nL) hL hS h
  | lload z => exact am_lload_wf (nL := nL) hL hS h
  | aload_n z => exact am_aload_wf (nL := nL) hL hS h
  | aload z => exact am_aload_wf (nL := nL) hL hS h
  | istore_n z => exact am_istore_wf (nL := nL) hL hS h
  | istore z => exact am_istore_wf (nL := nL) hL hS h
  | lstore_n z => exact am_lstore_wf (nL := nL) hL hS h
  | lstore z => exact am_lstore_wf (nL := nL) hL hS h
  | astore_n z => exact am_astore_wf (nL := nL) hL hS h
  | astore z => exact am_astore_wf (nL := nL) hL hS h
  | iinc z w => exact am_iinc_wf (nL := nL) hL hS h
  | iadd => exact am_bini_wf (nL := nL) hL hS h
  | isub => exact am_bini_wf (nL := nL) hL hS h
  | imul => exact am_bini_wf (nL := nL) hL hS h
  | iand => exact am_bini_wf (nL := nL) hL hS h
  | ior => exact am_bini_wf (nL := nL) hL hS h
  | ixor => exact am_bini_wf (nL := nL) hL hS h
  | ishl => exact am_bini_wf (nL := nL) hL hS h
  | ishr => exact am_bini_wf (nL := nL) hL hS h
  | iushr => exact am_bini_wf (nL := nL) hL hS h
  | idiv => exact am_divi_wf (nL := nL) hL hS h
  | irem => exact am_divi_wf (nL := nL) hL hS h
  | ladd => exact am_binl_wf (nL := nL) hL hS h
  | lsub => exact am_binl_wf (nL := nL) hL hS h
  | lmul => exact am_binl_wf (nL := nL) hL hS h
  | land => exact am_binl_wf (nL := nL) hL hS h
  | lor => exact am_binl_wf (nL := nL) hL hS h
  | lxor => exact am_binl_wf (nL := nL) hL hS h
  | ldiv => exact am_divl_wf (nL := nL) hL hS h
  | lrem => exact am_divl_wf (nL := nL) hL hS h
  | lshl => exact am_shl_wf (nL := nL) hL hS h
  | lshr => exact am_shl_wf (nL := nL) hL hS h
  | lushr => exact am_shl_wf (nL := nL) hL hS h
  | ineg => exact am_uni_wf (nL := nL) hL hS h
  | i2b => exact am_uni_wf (nL := nL) hL hS h
  | i2s => exact am_uni_wf (nL := nL) hL hS h
  | i2c => exact am_uni_wf (nL := nL) hL hS h
  | i2l => exact am_i2l_wf (nL := nL) hL hS h
  | l2i => exact am_l2i_wf (nL := nL) hL hS h
  | lneg => exact am_lneg_wf (nL := nL) hL hS h
  | lcmp => exact am_lcmp_wf (nL := nL) hL hS h
  | dup => exact am_dup_wf (nL := nL) hL hS h
  | pop => exact am_pop_wf (nL := nL) hL hS h
  | dup2 => exact am_dup2_wf (nL := nL) hL hS h
  | ifCond o off => exact am_if_wf (nL := nL) hL hS h
  | if_icmp o off => exact am_icmp_wf (nL := nL) hL hS h
  | goto off => exact am_goto_wf (nL := nL) hL hS h
  | ifnull off => exact am_ifnull_wf (nL := nL) hL hS h
  | ifnonnull off => exact am_ifnonnull_wf (nL := nL) hL hS h
  | lookupswitch d ps => exact am_lookup_wf (nL := nL) hL hS h
  | tableswitch d lo hi offs => exact am_table_wf (nL := nL) hL hS h
  | _ => cases h
end AMWF
theorem am_okv_mono {n k : Nat} {v : Value} (hk : n ≤ k) (h : am_okv n v) : am_okv k v := by
  cases v <;> try trivial
  rcases h with h | h
  · exact Or.inl (Nat.lt_of_lt_of_le h hk)
  · exact Or.inr h
theorem am_okL_mono {n k : Nat} {lv : List (Nat × Value)} (hk : n ≤ k) (h : am_okL n lv) : am_okL k lv := fun q hq => am_okv_mono hk (h q hq)
theorem am_okS_mono {n k : Nat} {st : List Value} (hk : n ≤ k) (h : am_okS n st) : am_okS k st := fun q hq => am_okv_mono hk (h q hq)
theorem am_okC_mono {n k : Nat} {q : am_C} (hk : n ≤ k) (h : am_okC n q) : am_okC k q := by
  obtain ⟨t, z, f | f | f | f | f⟩ | ⟨ci, fs⟩ := q <;> try trivial
  · intro j w hj
    rcases h j w hj with h | h
    · exact Or.inl (Nat.lt_of_lt_of_le h hk)
    · exact Or.inr h
  · exact fun v hv => am_okv_mono hk (h v hv)
theorem am_okH_mono {n k : Nat} {h : List am_C} (hk : n ≤ k) (hh : am_okH n h) : am_okH k h := fun q hq => am_okC_mono hk (hh q hq)
theorem am_okH_set {n i : Nat} {h : List am_C} {q : am_C} (hh : am_okH n h) (hq : am_okC n q) : am_okH n (h.set i q) := fun x hx => by
  rcases List.mem_or_eq_of_mem_set hx with h1 | rfl
  · exact hh x h1
  · exact hq
theorem am_okH_push {n : Nat} {h : List am_C} {q : am_C} (hh : am_okH n h) (hq : am_okC n q) : am_okH n (h ++ [q]) := fun x hx => by
  rcases List.mem_append.mp hx with h1 | h1
  · exact hh x h1
  · rw [List.mem_singleton.mp h1]
    exact hq
/-- all that an instruction leaves is in order -/
abbrev am_ok3 (lv : List (Nat × Value)) (st : List Value) (h : List am_C) : Prop := am_okL h.length lv ∧ am_okS h.length st ∧ am_okH h.length h
section AMWH
variable {pc pc' : Nat} {lv lv' : List (Nat × Value)} {st st' : List Value} {h h' : List am_C}
theorem am_getf_wf {ci k : Nat} (hw : am_ok3 lv st h) (hr : am_getf ci k pc lv st h = some (pc', lv', st', h')) : am_ok3 lv' st' h' ∧ h.length = h'.length := by
  obtain ⟨hL, hS, hH⟩ := hw
  unfold am_getf at hr
  split at hr
  · split at hr
    · rename_i hq
      split at hr
      · split at hr
        · rename_i v hv
          cases hr
          exact ⟨⟨hL, am_okS_c.mpr ⟨hH _ (List.mem_of_getElem? hq) _ (List.mem_of_getElem? hv), (am_okS_c.mp hS).2⟩, hH⟩, rfl⟩
        · cases hr
      · cases hr
    · cases hr
  · cases hr
theorem am_putf_wf {ci k : Nat} {ty : FieldType} (hw : am_ok3 lv st h) (hr : am_putf ci k ty pc lv st h = some (pc', lv', st', h')) : am_ok3 lv' st' h' ∧ h.length = h'.length := by
  obtain ⟨hL, hS, hH⟩ := hw
  unfold am_putf at hr
  split at hr
  · rename_i v q r
    split at hr
    · rename_i cj fs hq
      split at hr
      · cases hr
        have hC : am_okC h.length (.inr (ci, fs.set k v)) := fun w hw => by
          rcases List.mem_or_eq_of_mem_set hw with h1 | rfl
          · exact hH _ (List.mem_of_getElem? hq) w h1
          · exact (am_okS_c.mp hS).1
        refine ⟨⟨?_, ?_, ?_⟩, (List.length_set).symm⟩
        · rw [List.length_set]; exact hL
        · rw [List.length_set]; exact (am_okS_c.mp (am_okS_c.mp hS).2).2
        · rw [List.length_set]; exact am_okH_set hH hC
      · cases hr
    · cases hr
  · cases hr
theorem am_iald_wf {t : Nat} (hw : am_ok3 lv st h) (hr : am_iald t pc lv st h = some (pc', lv', st', h')) : am_ok3 lv' st' h' ∧ h.length = h'.length := by
  obtain ⟨hL, hS, hH⟩ := hw
  unfold am_iald at hr
  split at hr
  · split at hr
    · split at hr
      · cases hr
        exact ⟨⟨hL, am_okS_c.mpr ⟨trivial, (am_okS_c.mp (am_okS_c.mp hS).2).2⟩, hH⟩, rfl⟩
      · cases hr
    · cases hr
  · cases hr
theorem am_bald_wf (hw : am_ok3 lv st h) (hr : am_bald pc lv st h = some (pc', lv', st', h')) : am_ok3 lv' st' h' ∧ h.length = h'.length := by
  obtain ⟨hL, hS, hH⟩ := hw
  unfold am_bald at hr
  split at hr
  · split at hr
    · split at hr
      · cases hr
        exact ⟨⟨hL, am_okS_c.mpr ⟨trivial, (am_okS_c.mp (am_okS_c.mp hS).2).2⟩, hH⟩, rfl⟩
      · cases hr
    · cases hr
  · cases hr
theorem am_lald_wf (hw : am_ok3 lv st h) (hr : am_lald pc lv st h = some (pc', lv', st', h')) : am_ok3 lv' st' h' ∧ h.length = h'.length := by
  obtain ⟨hL, hS, hH⟩ := hw
  unfold am_lald at hr
  split at hr
  · split at hr
    · split at hr
      · cases hr
        exact ⟨⟨hL, am_okS_c.mpr ⟨trivial, (am_okS_c.mp (am_okS_c.mp hS).2).2⟩, hH⟩, rfl⟩
      · cases hr
    · cases hr
  · cases hr
theorem am_aald_wf (hw : am_ok3 lv st h) (hr : am_aald pc lv st h = some (pc', lv', st', h')) : am_ok3 lv' st' h' ∧ h.length = h'.length := by
  obtain ⟨hL, hS, hH⟩ := hw
  unfold am_aald at hr
  split at hr
  · rename_i i q r
    split at hr
    · rename_i u n f hq
      split at hr
      · cases hr
        have hv : am_okv h.length (va_rf (f i.toNatClampNeg)) := by
          cases hf : f i.toNatClampNeg with
          | none => trivial
          | some z => exact hH _ (List.mem_of_getElem? hq) _ z hf
        exact ⟨⟨hL, am_okS_c.mpr ⟨hv, (am_okS_c.mp (am_okS_c.mp hS).2).2⟩, hH⟩, rfl⟩
      · cases hr
    · cases hr
  · cases hr
theorem am_iast_wf (hw : am_ok3 lv st h) (hr : am_iast pc lv st h = some (pc', lv', st', h')) : am_ok3 lv' st' h' ∧ h.length = h'.length := by
  obtain ⟨hL, hS, hH⟩ := hw
  unfold am_iast at hr
  split at hr
  · split at hr
    · split at hr
      · cases hr
        refine ⟨⟨?_, ?_, ?_⟩, (List.length_set).symm⟩
        · rw [List.length_set]; exact hL
        · rw [List.length_set]; exact (am_okS_c.mp (am_okS_c.mp (am_okS_c.mp hS).2).2).2
        · rw [List.length_set]; exact am_okH_set hH trivial
      · cases hr
    · cases hr
  · cases hr
theorem am_bast_wf (hw : am_ok3 lv st h) (hr : am_bast pc lv st h = some (pc', lv', st', h')) : am_ok3 lv' st' h' ∧ h.length = h'.length := by
  obtain ⟨hL, hS, hH⟩ := hw
  unfold am_bast at hr
  split at hr
  · split at hr
    · split at hr
      · cases hr
        refine ⟨⟨?_, ?_, ?_⟩, (List.length_set).symm⟩
        · rw [List.length_set]; exact hL
        · rw [List.length_set]; exact (am_okS_c.mp (am_okS_c.mp (am_okS_c.mp hS).2).2).2
        · rw [List.length_set]; exact am_okH_set hH trivial
      · cases hr
    · cases hr
  · cases hr
theorem am_last_wf (hw : am_ok3 lv st h) (hr : am_last pc lv st h = some (pc', lv', st', h')) : am_ok3 lv' st' h' ∧ h.length = h'.length := by
  obtain ⟨hL, hS, hH⟩ := hw
  unfold am_last at hr
  split at hr
  · split at hr
    · split at hr
      · cases hr
        refine ⟨⟨?_, ?_, ?_⟩, (List.length_set).symm⟩
        · rw [List.length_set]; exact hL
        · rw [List.length_set]; exact (am_okS_c.mp (am_okS_c.mp (am_okS_c.mp hS).2).2).2
        · rw [List.length_set]; exact am_okH_set hH trivial
      · cases hr
    · cases hr
  · cases hr
theorem am_aast_wf {tb op : Nat} (hw : am_ok3 lv st h) (hr : am_aast tb op pc lv st h = some (pc', lv', st', h')) : am_ok3 lv' st' h' ∧ h.length = h'.length := by
  obtain ⟨hL, hS, hH⟩ := hw
  unfold am_aast at hr
  split at hr
  · rename_i x i q r
    split at hr
    · rename_i u n f cj vs hq hv
      split at hr
      · cases hr
        have hC : am_okC h.length (.inl (u, n, .inr (.inr (.inr (.inr (va_up f i.toNatClampNeg (some x))))))) := fun j k hj => by
          by_cases hji : j = i.toNatClampNeg
          · rw [hji, va_up_self] at hj
            cases hj
            exact (am_okS_c.mp hS).1
          · rw [va_up_ne _ _ hji] at hj
            exact hH _ (List.mem_of_getElem? hq) j k hj
        refine ⟨⟨?_, ?_, ?_⟩, (List.length_set).symm⟩
        · rw [List.length_set]; exact hL
        · rw [List.length_set]; exact (am_okS_c.mp (am_okS_c.mp (am_okS_c.mp hS).2).2).2
        · rw [List.length_set]; exact am_okH_set hH hC
      · cases hr
    · cases hr
  · rename_i i q r
    split at hr
    · rename_i u n f hq
      split at hr
      · cases hr
        have hC : am_okC h.length (.inl (u, n, .inr (.inr (.inr (.inr (va_up f i.toNatClampNeg none)))))) := fun j k hj => by
          by_cases hji : j = i.toNatClampNeg
          · rw [hji, va_up_self] at hj
            cases hj
          · rw [va_up_ne _ _ hji] at hj
            exact hH _ (List.mem_of_getElem? hq) j k hj
        refine ⟨⟨?_, ?_, ?_⟩, (List.length_set).symm⟩
        · rw [List.length_set]; exact hL
        · rw [List.length_set]; exact (am_okS_c.mp (am_okS_c.mp (am_okS_c.mp hS).2).2).2
        · rw [List.length_set]; exact am_okH_set hH hC
      · cases hr
    · cases hr
  · cases hr
theorem am_alen_wf (hw : am_ok3 lv st h) (hr : am_alen pc lv st h = some (pc', lv', st', h')) : am_ok3 lv' st' h' ∧ h.length = h'.length := by
  obtain ⟨hL, hS, hH⟩ := hw
  unfold am_alen at hr
  split at hr
  · split at hr
    · split at hr
      · cases hr
        exact ⟨⟨hL, am_okS_c.mpr ⟨trivial, (am_okS_c.mp hS).2⟩, hH⟩, rfl⟩
      · cases hr
    · cases hr
  · cases hr
theorem am_zero_ok (n t k : Nat) : am_okC n (.inl (t, am_zero t k)) := by
  unfold am_zero
  split
  · trivial
  · intro j w hj; cases hj
  · intro j w hj; cases hj
  · trivial
theorem am_newa_wf {nS : Nat} {t : Nat} (hw : am_ok3 lv st h) (hr : am_newa t pc lv st h = some (pc', lv', st', h', nS)) : am_ok3 lv' st' h' ∧ h'.length = h.length + 1 := by
  obtain ⟨hL, hS, hH⟩ := hw
  unfold am_newa at hr
  split at hr
  · split at hr
    · rename_i hz
      cases hr
      refine ⟨⟨?_, ?_, ?_⟩, by rw [List.length_append]; rfl⟩
      · rw [List.length_append]; exact am_okL_mono (Nat.le_add_right _ _) hL
      · rw [List.length_append]; exact am_okS_c.mpr ⟨Or.inl (Nat.lt_succ_self _), am_okS_mono (Nat.le_add_right _ _) (am_okS_c.mp hS).2⟩
      · rw [List.length_append]; exact am_okH_push (am_okH_mono (Nat.le_add_right _ _) hH) (am_zero_ok _ _ _)
    · cases hr
  · cases hr
theorem am_newq_wf {nS : Nat} {t : Nat} (hw : am_ok3 lv st h) (hr : am_newq t pc lv st h = some (pc', lv', st', h', nS)) : am_ok3 lv' st' h' ∧ h'.length = h.length + 1 := by
  obtain ⟨hL, hS, hH⟩ := hw
  unfold am_newq at hr
  split at hr
  · split at hr
    · rename_i hz
      cases hr
      refine ⟨⟨?_, ?_, ?_⟩, by rw [List.length_append]; rfl⟩
      · rw [List.length_append]; exact am_okL_mono (Nat.le_add_right _ _) hL
      · rw [List.length_append]; exact am_okS_c.mpr ⟨Or.inl (Nat.lt_succ_self _), am_okS_mono (Nat.le_add_right _ _) (am_okS_c.mp hS).2⟩
      · rw [List.length_append]; exact am_okH_push (am_okH_mono (Nat.le_add_right _ _) hH) (am_zero_ok _ _ _)
    · cases hr
  · cases hr
theorem am_new_wf {nS : Nat} {ci : Nat} {fs : List Value} (hf : ∀ k, am_okS k fs) (hw : am_ok3 lv st h) (hr : am_new ci fs pc lv st h = some (pc', lv', st', h', nS)) : am_ok3 lv' st' h' ∧ h'.length = h.length + 1 := by
  obtain ⟨hL, hS, hH⟩ := hw
  unfold am_new at hr
  split at hr
  · cases hr
    refine ⟨⟨?_, ?_, ?_⟩, by rw [List.length_append]; rfl⟩
    · rw [List.length_append]; exact am_okL_mono (Nat.le_add_right _ _) hL
    · rw [List.length_append]; exact am_okS_c.mpr ⟨Or.inl (Nat.lt_succ_self _), am_okS_mono (Nat.le_add_right _ _) hS⟩
    · rw [List.length_append]; exact am_okH_push (am_okH_mono (Nat.le_add_right _ _) hH) (hf _)
  · cases hr
end AMWH
