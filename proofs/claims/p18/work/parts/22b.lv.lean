/-! ===== MORE LOCALS DO NO HARM, and their order is free ===== -/
def lvR (a b : List (Nat × Value)) : Prop := (a.map Prod.fst).Nodup ∧ (b.map Prod.fst).Nodup ∧ ∀ i v, am_get a i = some v → am_get b i = some v
theorem am_get_none {l : List (Nat × Value)} {i : Nat} (h : i ∉ l.map Prod.fst) : am_get l i = none := by
  induction l with
  | nil => rfl
  | cons q r ih =>
    rw [List.map_cons, List.mem_cons, not_or] at h
    show (if q.1 = i then some q.2 else am_get r i) = none
    rw [if_neg (fun e => h.1 e.symm)]
    exact ih h.2
theorem am_get_filter {l : List (Nat × Value)} (hn : (l.map Prod.fst).Nodup) (p : Nat × Value → Bool) (i : Nat) : am_get (l.filter p) i = (am_get l i).filter (fun v => p (i, v)) := by
  induction l with
  | nil => rfl
  | cons q r ih =>
    obtain ⟨j, v⟩ := q
    rw [List.map_cons, List.nodup_cons] at hn
    have e : am_get ((j, v) :: r) i = if j = i then some v else am_get r i := rfl
    rw [e]
    by_cases hp : p (j, v) = true
    · rw [List.filter_cons_of_pos hp]
      show (if j = i then some v else am_get (r.filter p) i) = _
      by_cases hj : j = i
      · subst hj
        rw [if_pos rfl, if_pos rfl]
        show some v = if p (j, v) = true then some v else none
        rw [if_pos hp]
      · rw [if_neg hj, if_neg hj]
        exact ih hn.2
    · rw [List.filter_cons_of_neg hp]
      by_cases hj : j = i
      · subst hj
        rw [if_pos rfl, ih hn.2, am_get_none hn.1]
        show none = if p (j, v) = true then some v else none
        rw [if_neg hp]
      · rw [if_neg hj]
        exact ih hn.2
theorem nd_filter {l : List (Nat × Value)} (hn : (l.map Prod.fst).Nodup) (p : Nat × Value → Bool) : ((l.filter p).map Prod.fst).Nodup := List.Nodup.sublist (List.Sublist.map _ List.filter_sublist) hn
theorem nd_cons {l : List (Nat × Value)} {i : Nat} {v : Value} (hn : (l.map Prod.fst).Nodup) (p : Nat × Value → Bool) (hp : ∀ v, p (i, v) = false) : (((i, v) :: l.filter p).map Prod.fst).Nodup := by
  rw [List.map_cons, List.nodup_cons]
  refine ⟨fun h => ?_, nd_filter hn p⟩
  obtain ⟨q, hq, e⟩ := List.mem_map.mp h
  obtain ⟨j, u⟩ := q
  have e : j = i := e
  subst e
  have := (List.mem_filter.mp hq).2
  rw [hp] at this
  cases this
theorem lvR_put {a b : List (Nat × Value)} {i : Nat} {v : Value} (p : Nat × Value → Bool) (hp : ∀ v, p (i, v) = false) (h : lvR a b) : lvR ((i, v) :: a.filter p) ((i, v) :: b.filter p) := by
  refine ⟨nd_cons h.1 p hp, nd_cons h.2.1 p hp, fun j u hj => ?_⟩
  have hj2 : (if i = j then some v else am_get (a.filter p) j) = some u := hj
  show (if i = j then some v else am_get (b.filter p) j) = some u
  by_cases e : i = j
  · rw [if_pos e] at hj2 ⊢
    exact hj2
  · rw [if_neg e] at hj2 ⊢
    rw [am_get_filter h.1] at hj2
    rw [am_get_filter h.2.1]
    cases ha : am_get a j with
    | none => rw [ha] at hj2; cases hj2
    | some u' =>
      rw [ha] at hj2
      rw [h.2.2 j u' ha]
      exact hj2
theorem lvR_st1 {a b : List (Nat × Value)} {i : Nat} {v : Value} (h : lvR a b) : lvR (am_st1 i v a) (am_st1 i v b) := lvR_put _ (fun v => by simp) h
theorem lvR_st2 {a b : List (Nat × Value)} {i : Nat} {v : Value} (h : lvR a b) : lvR (am_st2 i v a) (am_st2 i v b) := lvR_put _ (fun v => by simp) h
def lvP (f : am_F) : Prop := ∀ nL pc a b st pc' a' st', lvR a b → f nL pc a st = some (pc', a', st') → ∃ b', f nL pc b st = some (pc', b', st') ∧ lvR a' b'
/-- it hands the locals on -/
def lvK (f : am_F) : Prop := ∀ nL pc st, f nL pc = f nL pc ∧ ∀ a b, (∀ r, f nL pc a st = some r → f nL pc b st = some (r.1, b, r.2.2) ∧ r.2.1 = a)
theorem lvP_K {f : am_F} (h : lvK f) : lvP f := fun nL pc a b st pc' a' st' hR hf => by
  obtain ⟨e1, e2⟩ := (h nL pc st).2 a b _ hf
  have e2 : a' = a := e2
  subst e2
  exact ⟨b, e1, hR⟩
theorem lvP_pure (i : Instr) (len : Nat) : lvP (am_pure i len) := by
  intro nL pc a b st pc' a' st' hR h
  unfold am_pure at h ⊢
  split at h
  all_goals first
    | (cases h; exact ⟨b, rfl, hR⟩)
    | (simp only [am_iload, am_lload, am_aload] at h ⊢; split at h <;> first | (rename_i hg; cases h; rw [hR.2.2 _ _ hg]; exact ⟨b, rfl, hR⟩) | (cases h))
    | (simp only [am_iinc] at h ⊢; split at h <;> first | (rename_i hg; split at h <;> first | (cases h; rw [hR.2.2 _ _ hg]; dsimp only; rw [if_pos (by assumption)]; exact ⟨_, rfl, lvR_st1 hR⟩) | (cases h)) | (cases h))
    | (simp only [am_istore, am_astore, am_lstore, am_divi, am_divl, am_dup, am_pop, am_dup2, am_table, am_lookup, am_if, am_icmp, am_goto, am_ifnull, am_ifnonnull, am_br, am_jump, am_bini, am_binl, am_shl, am_uni, am_i2l, am_l2i, am_lneg, am_lcmp] at h ⊢
       repeat' split at h
       all_goals first
         | (cases h; done)
         | (cases h; exact ⟨b, rfl, hR⟩)
         | (cases h; (try dsimp only); rw [if_pos (by assumption)]; first | exact ⟨_, rfl, lvR_st1 hR⟩ | exact ⟨_, rfl, lvR_st2 hR⟩ | exact ⟨_, rfl, hR⟩)
         | (cases h; (try dsimp only); rw [if_neg (by assumption)]; exact ⟨_, rfl, hR⟩)
         | (cases h; (try dsimp only); rw [if_neg (by assumption), if_pos (by assumption)]; exact ⟨_, rfl, hR⟩)
         | skip)
    | (exact nomatch (show (none : am_R) = some _ from h))
section LVS
variable {O : ag_O af_T} {lim : Nat} {X : ag_X} {E : am_En} {cn : Nat → Nat} {dd : Nat} {call : ag_Ca af_T} {me : am_M}
def lvH (g : List (Nat × Value) → ag_RH af_T) : Prop := ∀ a b r, g a = some r → r.2.1 = a ∧ g b = some (r.1, b, r.2.2.1, r.2.2.2)
theorem lvH_do {d : ag_D} {len pc : Nat} {st : List Value} {t : af_T} : lvH (fun lv => ag_do O d len pc lv st t) := by
  intro a b r h
  dsimp only at h ⊢
  unfold ag_do ag_acc at h ⊢
  repeat' split at h
  all_goals first
    | (cases h; done)
    | (cases h; exact ⟨rfl, rfl⟩)
theorem lvH_out {f : List (Nat × Value) → am_RH} {t : af_T} (hf : ∀ a b r, f a = some r → r.2.1 = a ∧ f b = some (r.1, b, r.2.2.1, r.2.2.2)) : lvH (fun lv => ag_out (f lv) t) := by
  intro a b r h
  dsimp only at h ⊢
  unfold ag_out at h ⊢
  split at h
  · rename_i h1
    cases h
    obtain ⟨e1, e2⟩ := hf a b _ h1
    rw [e2]
    exact ⟨e1, rfl⟩
  · cases h
theorem lvH_copy {pc : Nat} {st : List Value} {t : af_T} : lvH (fun lv => ag_copy O pc lv st t) := by
  intro a b r h
  dsimp only at h ⊢
  unfold ag_copy at h ⊢
  split at h
  · split at h
    · rename_i c0 c h0 h1
      split at h
      · rename_i c' hc
        cases h
        refine ⟨rfl, ?_⟩
        first | rfl | (rw [h0, h1]; rfl) | (rw [h0, h1]; dsimp only; rw [hc])
      · cases h
    · cases h
  · cases h
def lvX (x y : ag_St af_T ⊕ ag_Re af_T) : Prop := match x with
  | .inl (pc, a, st, t, nc, ns) => ∃ b, y = .inl (pc, b, st, t, nc, ns) ∧ lvR a b
  | .inr r => y = .inr r
theorem lvX_H {g : List (Nat × Value) → ag_RH af_T} (hg : lvH g) {a b : List (Nat × Value)} {nc ns : Nat} {x : ag_St af_T ⊕ ag_Re af_T} (hR : lvR a b) (h : ag_liftH (g a) nc ns = some x) : ∃ y, ag_liftH (g b) nc ns = some y ∧ lvX x y := by
  unfold ag_liftH at h ⊢
  cases e : g a with
  | none => rw [e] at h; cases h
  | some r =>
    obtain ⟨pc, a', st, t⟩ := r
    rw [e] at h
    cases h
    obtain ⟨e1, e2⟩ := hg a b _ e
    have e1 : a' = a := e1
    subst e1
    rw [e2]
    exact ⟨_, rfl, b, rfl, hR⟩
theorem lvX_P {f : am_F} (hf : lvP f) {a b : List (Nat × Value)} {nL pc nc ns : Nat} {st : List Value} {t : af_T} {x : ag_St af_T ⊕ ag_Re af_T} (hR : lvR a b) (h : ag_lift (f nL pc a st) t nc ns = some x) : ∃ y, ag_lift (f nL pc b st) t nc ns = some y ∧ lvX x y := by
  unfold ag_lift at h ⊢
  cases e : f nL pc a st with
  | none => rw [e] at h; cases h
  | some r =>
    obtain ⟨pc', a', st'⟩ := r
    rw [e] at h
    cases h
    obtain ⟨b', e1, e2⟩ := hf nL pc a b st pc' a' st' hR e
    rw [e1]
    exact ⟨_, rfl, b', rfl, e2⟩
theorem lvX_back {rows : List (Nat × Nat × Nat × Nat)} {a b : List (Nat × Value)} {rest : List Value} {pc nc ns : Nat} {r : Option (ag_Re af_T)} {x : ag_St af_T ⊕ ag_Re af_T} (hR : lvR a b) (h : ag_back O lim E rows pc a rest nc ns r = some x) : ∃ y, ag_back O lim E rows pc b rest nc ns r = some y ∧ lvX x y := by
  unfold ag_back at h ⊢
  repeat' split at h
  all_goals first
    | (cases h; done)
    | (cases h; exact ⟨_, rfl, b, rfl, hR⟩)
    | (rename_i h1 _ _ h2 h3; rw [if_pos h1]; (try rw [h2]); (try dsimp only); rw [if_pos h3]; cases h; exact ⟨_, rfl, b, rfl, hR⟩)
    | (rename_i h1; rw [if_neg h1]; cases h; exact ⟨_, rfl, rfl⟩)
theorem lvX_inv {rows : List (Nat × Nat × Nat × Nat)} {a b : List (Nat × Value)} {p q r pc nc ns : Nat} {st : List Value} {t : af_T} {x : ag_St af_T ⊕ ag_Re af_T} (hR : lvR a b) (h : ag_invoke O lim E call rows cn p q r (pc, a, st, t, nc, ns) = some x) : ∃ y, ag_invoke O lim E call rows cn p q r (pc, b, st, t, nc, ns) = some y ∧ lvX x y := by
  unfold ag_invoke at h ⊢
  dsimp only at h ⊢
  split at h
  · rename_i hb
    rw [if_pos hb]
    split at h
    all_goals (try dsimp only)
    all_goals first
      | (cases h; done)
      | (split at h <;> first | (cases h; done) | (rename_i hz; rw [if_pos hz]; first | exact lvX_back hR h | (cases h; exact ⟨_, rfl, b, rfl, hR⟩)) | (split at h <;> first | (cases h; done) | (rename_i hq hz; (try rw [hq]); (try dsimp only); rw [if_pos hz]; exact lvX_back hR h)))
  · cases h
theorem lvX_mk {c : am_C} {n pc nc ns : Nat} {a b : List (Nat × Value)} {st : List Value} {t : af_T} {x : ag_St af_T ⊕ ag_Re af_T} (hR : lvR a b) (h : ag_mk O lim c n pc a st t nc ns = some x) : ∃ y, ag_mk O lim c n pc b st t nc ns = some y ∧ lvX x y := by
  unfold ag_mk at h ⊢
  split at h
  · rename_i hz
    rw [if_pos hz]
    cases h
    exact ⟨_, rfl, b, rfl, hR⟩
  · cases h
theorem lvX_end {r : am_SR} {t : af_T} {x : ag_St af_T ⊕ ag_Re af_T} (h : ag_end r t = some x) : ∃ y, ag_end r t = some y ∧ lvX x y := by
  refine ⟨x, h, ?_⟩
  unfold ag_end at h
  split at h
  · cases h
    rfl
  · cases h
theorem lvP_push {v : Value} {n : Nat} : lvP (am_push v n) := fun nL pc a b st pc' a' st' hR hf => by
  cases hf
  exact ⟨b, rfl, hR⟩
theorem lvP_ldc {n p r : Nat} : lvP (am_ldc n p r) := by
  unfold am_ldc
  split
  · exact lvP_push
  · exact lvP_push
theorem lv_step {i : am_I} {a b : List (Nat × Value)} {pc nc ns : Nat} {st : List Value} {t : af_T} {x : ag_St af_T ⊕ ag_Re af_T} (hR : lvR a b) (h : ag_step O lim X E cn dd call me i (pc, a, st, t, nc, ns) = some x) : ∃ y, ag_step O lim X E cn dd call me i (pc, b, st, t, nc, ns) = some y ∧ lvX x y := by
  obtain ⟨i, len, p, q, r⟩ := i
  unfold ag_step at h ⊢
  dsimp only at h ⊢
  split at h
  · refine lvX_H (g := fun lv => ag_getfield O E p q r pc lv st t) ?_ hR h
    intro a b r' h'
    dsimp only at h' ⊢
    unfold ag_getfield at h' ⊢
    split at h'
    · exact lvH_do a b r' h'
    · refine lvH_out (f := fun lv => am_xgetf E.2.1.1 p pc lv st []) ?_ a b r' h'
      intro a b r2 h2
      (try dsimp only at h2 ⊢)
      unfold am_xgetf at h2 ⊢
      repeat' split at h2
      all_goals first | (cases h2; done) | (cases h2; refine ⟨rfl, ?_⟩; rw [if_pos (by assumption)])
  · exact lvX_H (g := fun lv => ag_do O (ad_putf p q (E.2.2.1 p q)) 3 pc lv st t) lvH_do hR h
  · refine lvX_H (g := fun lv => ag_iaload O X pc lv st t) ?_ hR h
    intro a b r' h'
    dsimp only at h' ⊢
    unfold ag_iaload at h' ⊢
    split at h'
    · split at h'
      · rename_i hz
        obtain ⟨e1, e2⟩ := lvH_do a b r' h'
        (try dsimp only)
        rw [if_pos hz]
        exact ⟨e1, e2⟩
      · rename_i hz
        (try dsimp only)
        rw [if_neg hz]
        repeat' split at h'
        all_goals first | (cases h'; done) | (rename_i h1 h2 h3; cases h'; refine ⟨rfl, ?_⟩; (try rw [h1]); (try rw [h2]); (try dsimp only); rw [if_pos h3])
    · cases h'
  · refine lvX_H (g := fun lv => ag_baload O E pc lv st t) ?_ hR h
    intro a b r' h'
    dsimp only at h' ⊢
    unfold ag_baload at h' ⊢
    split at h'
    · split at h'
      · rename_i hz
        obtain ⟨e1, e2⟩ := lvH_do a b r' h'
        (try dsimp only)
        rw [if_pos hz]
        exact ⟨e1, e2⟩
      · rename_i hz
        (try dsimp only)
        rw [if_neg hz]
        refine lvH_out (f := fun lv => am_xbald E.2.1.1 E.2.1.2 pc lv _ []) ?_ a b r' h'
        intro a b r2 h2
        (try dsimp only at h2 ⊢)
        unfold am_xbald at h2 ⊢
        (try dsimp only at h2 ⊢)
        split at h2
        · rename_i g1
          rw [if_pos g1]
          cases h2
          exact ⟨rfl, rfl⟩
        · cases h2
    · cases h'
  · exact lvX_H (g := fun lv => ag_do O ad_lald 1 pc lv st t) lvH_do hR h
  · exact lvX_H (g := fun lv => ag_do O ad_aald 1 pc lv st t) lvH_do hR h
  · exact lvX_H (g := fun lv => ag_do O ad_iast 1 pc lv st t) lvH_do hR h
  · exact lvX_H (g := fun lv => ag_do O ad_bast 1 pc lv st t) lvH_do hR h
  · exact lvX_H (g := fun lv => ag_do O ad_last 1 pc lv st t) lvH_do hR h
  · refine lvX_H (g := fun lv => ag_aast O 10 4 pc lv st t) ?_ hR h
    intro a b r' h'
    dsimp only at h' ⊢
    unfold ag_aast at h' ⊢
    repeat' split at h'
    all_goals first | (cases h'; done) | (obtain ⟨e1, e2⟩ := lvH_do a b r' h'; refine ⟨e1, ?_⟩; first | exact e2 | (simp_all; done))
  · refine lvX_H (g := fun lv => ag_alength O X E pc lv st t) ?_ hR h
    intro a b r' h'
    dsimp only at h' ⊢
    unfold ag_alength at h' ⊢
    split at h'
    · split at h'
      · rename_i hz
        obtain ⟨e1, e2⟩ := lvH_do a b r' h'
        (try dsimp only)
        rw [if_pos hz]
        exact ⟨e1, e2⟩
      · rename_i hz
        (try dsimp only)
        rw [if_neg hz]
        split at h'
        · rename_i hz2
          rw [if_pos hz2]
          split at h'
          · cases h'
            exact ⟨rfl, rfl⟩
          · cases h'
        · rename_i hz2
          rw [if_neg hz2]
          refine lvH_out (f := fun lv => am_xalen 0 E.2.1.1 pc lv _ []) ?_ a b r' h'
          intro a b r2 h2
          (try dsimp only at h2 ⊢)
          unfold am_xalen at h2 ⊢
          (try dsimp only at h2 ⊢)
          split at h2
          · rename_i g1
            rw [if_pos g1]
            cases h2
            exact ⟨rfl, rfl⟩
          · rename_i g1
            rw [if_neg g1]
            split at h2
            · rename_i g2
              rw [if_pos g2]
              cases h2
              exact ⟨rfl, rfl⟩
            · cases h2
    · cases h'
  · unfold ag_newa at h ⊢
    split at h
    · rename_i e
      cases e
      dsimp only
      split at h
      · rename_i hz
        rw [if_pos hz]
        exact lvX_mk hR h
      · cases h
    · cases h
  · unfold ag_newq at h ⊢
    split at h
    · rename_i e
      cases e
      dsimp only
      split at h
      · rename_i hz
        rw [if_pos hz]
        exact lvX_mk hR h
      · cases h
    · cases h
  · unfold ag_make at h ⊢
    dsimp only at h ⊢
    split at h
    · exact lvX_mk hR h
    · split at h
      · rename_i hz
        (try dsimp only)
        rw [if_pos hz]
        cases h
        exact ⟨_, rfl, rfl⟩
      · cases h
  · exact lvX_P (f := am_ldc 2 p r) lvP_ldc hR h
  · exact lvX_P (f := am_ldc 3 p r) lvP_ldc hR h
  · exact lvX_P (f := am_push _ 3) lvP_push hR h
  · exact lvX_P (f := am_push _ 3) lvP_push hR h
  · exact lvX_inv hR h
  · exact lvX_inv hR h
  · split at h
    · exact lvX_H (g := fun lv => ag_copy O pc lv st t) lvH_copy hR h
    · rename_i hne
      exact lvX_inv hR h
  · exact lvX_end h
  · exact lvX_end h
  · exact lvX_end h
  · exact lvX_end h
  · exact lvX_P (lvP_pure i len) hR h
theorem lv_run : ∀ (n : Nat) (S : ag_St af_T) (b : List (Nat × Value)) (r : ag_Re af_T), lvR S.2.1 b → ag_run O lim X E cn dd call me n S = some r → ag_run O lim X E cn dd call me n (S.1, b, S.2.2) = some r := by
  intro n
  induction n with
  | zero => intro S b r _ h; cases h
  | succ n ih =>
    intro S b r hR h
    obtain ⟨pc, a, st, t, nc, ns⟩ := S
    unfold ag_run at h ⊢
    dsimp only at h ⊢
    split at h
    · rename_i i hi
      split at h
      · rename_i S' hs
        obtain ⟨y, e, hx⟩ := lv_step hR hs
        obtain ⟨pc', a', st', t', nc', ns'⟩ := S'
        obtain ⟨b', rfl, hR'⟩ := hx
        rw [e]
        exact ih (pc', a', st', t', nc', ns') b' r hR' h
      · rename_i r' hs
        cases h
        obtain ⟨y, e, hx⟩ := lv_step hR hs
        have hx : y = .inr r := hx
        rw [e, hx]
      · cases h
    · cases h
end LVS
def lvS (a b : List (Nat × Value)) : Prop := match a with
  | [] => True
  | q :: r => am_get b q.1 = some q.2 ∧ lvS r b
def ndk (l : List Nat) : Bool := match l with
  | [] => true
  | x :: r => r.all (fun y => !Nat.beq x y) && ndk r
theorem ndk_ok {l : List Nat} (h : ndk l = true) : l.Nodup := by
  induction l with
  | nil => exact List.nodup_nil
  | cons x r ih =>
    have h2 : (r.all (fun y => !Nat.beq x y) && ndk r) = true := h
    rw [Bool.and_eq_true] at h2
    refine List.nodup_cons.mpr ⟨fun hx => ?_, ih h2.2⟩
    have := List.all_eq_true.mp h2.1 x hx
    rw [Nat.beq_refl] at this
    cases this
theorem lvS_ok {a b : List (Nat × Value)} (h : lvS a b) (i : Nat) (v : Value) (hi : am_get a i = some v) : am_get b i = some v := by
  induction a with
  | nil => cases hi
  | cons q r ih =>
    have hi2 : (if q.1 = i then some q.2 else am_get r i) = some v := hi
    split at hi2
    · rename_i e
      rw [← e, h.1]
      exact hi2
    · exact ih h.2 hi2
/-- the locals that a label wants, out of those that are there -/
theorem Tm_lv {X : ag_X} {E : am_En} {cn : Nat → Nat} {pg : Nat → am_M} {d : Nat} {me : am_M} {Q : ag_Re af_T → Prop} {pc nc ns : Nat} {a b : List (Nat × Value)} {st : List Value} {t : af_T} (h1 : ndk (a.map Prod.fst) = true) (h2 : ndk (b.map Prod.fst) = true) (hs : lvS a b) (h : Tm X E cn pg d me (pc, a, st, t, nc, ns) Q) : Tm X E cn pg d me (pc, b, st, t, nc, ns) Q := by
  obtain ⟨r, hq, F, hF⟩ := h
  exact ⟨r, hq, F, fun fuel hf n hn => lv_run n (pc, a, st, t, nc, ns) b r ⟨ndk_ok h1, ndk_ok h2, lvS_ok hs⟩ (hF fuel hf n hn)⟩
