/-! ===== ENTRIES ONCE A CLASS, PLACES BY THEIR BYTES ===== -/
def am_plain (i : Instr) : Bool := match i with
  | .getfield _ => false
  | .putfield _ => false
  | .newarray _ => false
  | .anewarray _ => false
  | .new _ => false
  | .ldc _ => false
  | .ldc_w _ => false
  | .ldc2_w _ => false
  | .getstatic _ => false
  | .invokevirtual _ => false
  | .invokestatic _ => false
  | .invokespecial _ => false
  | _ => true
theorem am_plain_w {cl : List vw_C} {xn : Nat → String} {cn : Nat → Nat} {pg : Nat → am_M} {own : String} {t : am_I} (h : am_plain t.1 = true) : am_ws cl xn cn pg own t = [] := by
  obtain ⟨i, len, a, b, c⟩ := t
  cases i <;> first | exact False.elim (Bool.false_ne_true h) | rfl
theorem am_plain_s {E : am_En} {cl : List vw_C} {refs : List (String × Nat × String × Nat)} {cn : Nat → Nat} {pg : Nat → am_M} {np : Nat → Nat} {cd : Nat → Bool} {XL : List (String × Nat × Nat)} {me : am_M} {pc : Nat} {t : am_I} (h : am_plain t.1 = true) : am_sd E cl refs cn pg np cd XL me pc t = true := by
  obtain ⟨i, len, a, b, c⟩ := t
  cases i <;> first | exact False.elim (Bool.false_ne_true h) | rfl
def am_sm (i j : Instr) : Bool := match i with
  | .getfield x => (match j with | .getfield y => Nat.beq x y | _ => false)
  | .putfield x => (match j with | .putfield y => Nat.beq x y | _ => false)
  | .anewarray x => (match j with | .anewarray y => Nat.beq x y | _ => false)
  | .new x => (match j with | .new y => Nat.beq x y | _ => false)
  | .ldc x => (match j with | .ldc y => Nat.beq x y | _ => false)
  | .ldc_w x => (match j with | .ldc_w y => Nat.beq x y | _ => false)
  | .ldc2_w x => (match j with | .ldc2_w y => Nat.beq x y | _ => false)
  | .getstatic x => (match j with | .getstatic y => Nat.beq x y | _ => false)
  | .invokevirtual x => (match j with | .invokevirtual y => Nat.beq x y | _ => false)
  | .invokestatic x => (match j with | .invokestatic y => Nat.beq x y | _ => false)
  | .invokespecial x => (match j with | .invokespecial y => Nat.beq x y | _ => false)
  | .newarray x => (match j with | .newarray y => decide (x = y) | _ => false)
  | _ => false
theorem am_sm_ok {i j : Instr} (h : am_sm i j = true) : i = j := by
  cases i <;> first | exact False.elim (Bool.false_ne_true h) | (cases j <;> first | exact False.elim (Bool.false_ne_true h) | exact congrArg _ (Nat.eq_of_beq_eq_true h) | exact congrArg _ (of_decide_eq_true h))
def am_same (t u : am_I) : Bool := am_sm t.1 u.1 && (Nat.beq t.2.1 u.2.1 && (Nat.beq t.2.2.1 u.2.2.1 && (Nat.beq t.2.2.2.1 u.2.2.2.1 && Nat.beq t.2.2.2.2 u.2.2.2.2)))
theorem am_same_ok {t u : am_I} (h : am_same t u = true) : t = u := by
  obtain ⟨i, l, a, b, c⟩ := t
  obtain ⟨j, l', a', b', c'⟩ := u
  simp only [am_same, Bool.and_eq_true] at h
  obtain ⟨h1, h2, h3, h4, h5⟩ := h
  rw [am_sm_ok h1, Nat.eq_of_beq_eq_true h2, Nat.eq_of_beq_eq_true h3, Nat.eq_of_beq_eq_true h4, Nat.eq_of_beq_eq_true h5]
def am_pk (o k a b c : Nat) : Nat := (((o * 65536 + k) * 64 + b) * 16 + c) * 18446744073709551616 + a
def am_keyN (t : am_I) : Nat := match t.1 with
  | .getfield k => am_pk 1 k t.2.2.1 t.2.2.2.1 t.2.2.2.2
  | .putfield k => am_pk 2 k t.2.2.1 t.2.2.2.1 t.2.2.2.2
  | .anewarray k => am_pk 3 k t.2.2.1 t.2.2.2.1 t.2.2.2.2
  | .new k => am_pk 4 k t.2.2.1 t.2.2.2.1 t.2.2.2.2
  | .ldc k => am_pk 5 k t.2.2.1 t.2.2.2.1 t.2.2.2.2
  | .ldc_w k => am_pk 6 k t.2.2.1 t.2.2.2.1 t.2.2.2.2
  | .ldc2_w k => am_pk 7 k t.2.2.1 t.2.2.2.1 t.2.2.2.2
  | .getstatic k => am_pk 8 k t.2.2.1 t.2.2.2.1 t.2.2.2.2
  | .invokevirtual k => am_pk 9 k t.2.2.1 t.2.2.2.1 t.2.2.2.2
  | .invokestatic k => am_pk 10 k t.2.2.1 t.2.2.2.1 t.2.2.2.2
  | .invokespecial k => am_pk 11 k t.2.2.1 t.2.2.2.1 t.2.2.2.2
  | .newarray k => am_pk 12 (match k with | .boolean => 4 | .char => 5 | .float => 6 | .double => 7 | .byte => 8 | .short => 9 | .int => 10 | .long => 11) t.2.2.1 t.2.2.2.1 t.2.2.2.2
  | _ => 0
/-- a method of a class, of which nothing but that is looked at -/
def am_me0 (own : String) (ini : Bool) : am_M := (⟨own, bif ini then "<init>" else "x", ""⟩, ⟨#[]⟩, 0, none, [], fun _ => none)
def am_nx (t : am_I) : Bool := match t.1 with
  | .new _ => Nat.beq t.2.2.2.2 0
  | _ => true
section FMC
variable {E : am_En} {K : am_Ta} {tbl : List Cond} {cl : List vw_C} {refs : List (String × Nat × String × Nat)} {xn : Nat → String} {cn : Nat → Nat} {pg : Nat → am_M} {np : Nat → Nat} {cd : Nat → Bool} {XL : List (String × Nat × Nat)} {me : am_M} {own : String} {ini : Bool}
theorem am_sd_0 (e1 : me.1.cls = own) (e2 : (me.1.name == "<init>") = ini) {pc : Nat} {t : am_I} (hx : am_nx t = true) (h : am_sd E cl refs cn pg np cd XL (am_me0 own ini) 0 t = true) : am_sd E cl refs cn pg np cd XL me pc t = true := by
  obtain ⟨i, len, a, b, c⟩ := t
  subst e1
  cases i
  case putfield k =>
    have h : (match cl[a]? with
      | some q => decide (b < q.2.2) && (!(q.2.1 b).2.2.2 || ((bif ini then "<init>" else "x") == "<init>" && (q.2.1 b).1 == me.1.cls)) && decide (parseFieldDescriptor (q.2.1 b).2.2.1 = some (E.2.2.1 a b))
      | none => false) = true := h
    have e4 : ((bif ini then "<init>" else "x") == "<init>") = (me.1.name == "<init>") := by
      rw [e2]
      cases ini <;> decide
    rw [e4] at h
    exact h
  case new k =>
    have e0 : c = 0 := Nat.eq_of_beq_eq_true hx
    subst e0
    exact h
  all_goals exact h
def am_vok (E : am_En) (K : am_Ta) (cn : Nat → Nat) (pg : Nat → am_M) (np : Nat → Nat) (cd : Nat → Bool) (XL : List (String × Nat × Nat)) (own : String) (ini : Bool) (t : am_I) : Prop := (∀ w ∈ am_ws K.2.1 K.2.2.2.1 cn pg own t, w ∈ K.1) ∧ am_sd E K.2.1 K.2.2.1 cn pg np cd XL (am_me0 own ini) 0 t = true ∧ am_nx t = true
def am_wchk (E : am_En) (tbl : List Cond) (cl : List vw_C) (refs : List (String × Nat × String × Nat)) (xn : Nat → String) (cn : Nat → Nat) (pg : Nat → am_M) (np : Nat → Nat) (cd : Nat → Bool) (XL : List (String × Nat × Nat)) (own : String) (ini : Bool) (gs : List Nat) (L : List (am_I × List Nat)) : Bool :=
  (am_pick gs tbl).all am_carry && L.all (fun q => decide (am_ws cl xn cn pg own q.1 = am_nth (am_pick gs tbl) q.2) && (am_sd E cl refs cn pg np cd XL (am_me0 own ini) 0 q.1 && am_nx q.1))
theorem am_wchk_at {gs : List Nat} {L : List (am_I × List Nat)} (hK : K.1 = tbl.filter am_carry) (h : am_wchk E tbl K.2.1 K.2.2.1 K.2.2.2.1 cn pg np cd XL own ini gs L = true) {i : Nat} {t : am_I} {js : List Nat} (hi : L[i]? = some (t, js)) : am_vok E K cn pg np cd XL own ini t := by
  unfold am_wchk at h
  rw [Bool.and_eq_true] at h
  obtain ⟨h1, h3⟩ := h
  have hin : ∀ w ∈ am_pick gs tbl, w ∈ K.1 := fun w hw => by
    rw [hK]
    exact List.mem_filter.mpr ⟨am_pick_mem hw, List.all_eq_true.mp h1 w hw⟩
  have hjs := List.all_eq_true.mp h3 _ (List.mem_of_getElem? hi)
  simp only [Bool.and_eq_true, decide_eq_true_eq] at hjs
  obtain ⟨a1, a2, a3⟩ := hjs
  refine ⟨fun w hw => ?_, a2, a3⟩
  rw [a1] at hw
  exact hin w (am_nth_mem hw)
/-- one place -/
def am_f1 (E : am_En) (tbl : List Cond) (cl : List vw_C) (refs : List (String × Nat × String × Nat)) (xn : Nat → String) (cn : Nat → Nat) (pg : Nat → am_M) (np : Nat → Nat) (cd : Nat → Bool) (XL : List (String × Nat × Nat)) (vt : Nat → Option am_I) (me : am_M) (gs : List Nat) (pc : Nat) (t : am_I) (js : List Nat) (bs : List UInt8) : Bool :=
  am_len t.1 t.2.1 && ((am_ckI t.1 t.2.1 bs || decide (decode me.2.1 pc = .ok (t.1, t.2.1))) && (am_plain t.1 || (match vt (am_keyN t) with
    | some u => am_same t u
    | none => am_ask E cl refs xn cn pg np cd XL me (am_pick gs tbl) pc t js)))
def am_fl (E : am_En) (tbl : List Cond) (cl : List vw_C) (refs : List (String × Nat × String × Nat)) (xn : Nat → String) (cn : Nat → Nat) (pg : Nat → am_M) (np : Nat → Nat) (cd : Nat → Bool) (XL : List (String × Nat × Nat)) (vt : Nat → Option am_I) (me : am_M) (gs : List Nat) (L : List (Nat × am_I × List Nat)) (cur : Nat) (bs : List UInt8) : Bool := match L with
  | [] => true
  | q :: r => Nat.ble cur q.1 && (am_f1 E tbl cl refs xn cn pg np cd XL vt me gs q.1 q.2.1 q.2.2 (bs.drop (q.1 - cur)) && am_fl E tbl cl refs xn cn pg np cd XL vt me gs r q.1 (bs.drop (q.1 - cur)))
def am_fchk (E : am_En) (tbl : List Cond) (cl : List vw_C) (refs : List (String × Nat × String × Nat)) (xn : Nat → String) (cn : Nat → Nat) (pg : Nat → am_M) (np : Nat → Nat) (cd : Nat → Bool) (XL : List (String × Nat × Nat)) (vt : Nat → Option am_I) (me : am_M) (gs : List Nat) (L : List (Nat × am_I × List Nat)) : Bool :=
  (am_pick gs tbl).all am_carry && am_fl E tbl cl refs xn cn pg np cd XL vt me gs L 0 me.2.1.data.toList
theorem am_fl_at {vt : Nat → Option am_I} {gs : List Nat} : ∀ {L : List (Nat × am_I × List Nat)} {cur : Nat} {bs : List UInt8}, bs = me.2.1.data.toList.drop cur → am_fl E tbl cl refs xn cn pg np cd XL vt me gs L cur bs = true → ∀ {i pc : Nat} {t : am_I} {js : List Nat}, L[i]? = some (pc, t, js) → am_f1 E tbl cl refs xn cn pg np cd XL vt me gs pc t js (me.2.1.data.toList.drop pc) = true := by
  intro L
  induction L with
  | nil => intro cur bs hb h i pc t js hi; cases hi
  | cons q r ih =>
    intro cur bs hb h i pc t js hi
    unfold am_fl at h
    obtain ⟨h1, h2⟩ := Bool.and_eq_true_iff.mp h
    obtain ⟨h2, h3⟩ := Bool.and_eq_true_iff.mp h2
    have e : bs.drop (q.1 - cur) = me.2.1.data.toList.drop q.1 := by
      rw [hb, List.drop_drop]
      congr 1
      have := Nat.le_of_ble_eq_true h1
      omega
    rw [e] at h2 h3
    cases i with
    | zero =>
      cases hi
      exact h2
    | succ i => exact ih rfl h3 (show r[i]? = some (pc, t, js) from hi)
theorem am_fchk_at {vt : Nat → Option am_I} {gs : List Nat} {L : List (Nat × am_I × List Nat)} (hK : K.1 = tbl.filter am_carry) (heo : ∀ a, am_eo (pg a) (np a) = true) (hcd : ∀ a, cd a = true → ((pg a).2.2.2.2.1 = [] → Cond.code (pg a).1 (pg a).2.1 (pg a).2.2.1 (pg a).2.2.2.1 ∈ K.1) ∧ (¬ (pg a).2.2.2.2.1 = [] → Cond.codeWith (pg a).1 (pg a).2.1 (pg a).2.2.1 (pg a).2.2.2.1 (pg a).2.2.2.2.1 ∈ K.1))
    (hXL : ∀ q ∈ XL, (∀ w ∈ Bundle.ownAtoms q.1 q.2.1 (K.2.2.2.1 q.2.2) K.2.2.2.2, am_xw w) ∧ (∀ w ∈ Bundle.ownAtoms q.1 q.2.1 (K.2.2.2.1 q.2.2) K.2.2.2.2, am_carry w = true → w ∈ K.1))
    (hv : ∀ k t, vt k = some t → am_vok E K cn pg np cd XL own ini t) (e1 : me.1.cls = own) (e2 : (me.1.name == "<init>") = ini)
    (h : am_fchk E tbl K.2.1 K.2.2.1 K.2.2.2.1 cn pg np cd XL vt me gs L = true) {i pc : Nat} {t : am_I} {js : List Nat} (hi : L[i]? = some (pc, t, js)) : am_V E K cn pg me pc t := by
  unfold am_fchk at h
  rw [Bool.and_eq_true] at h
  obtain ⟨h1, h3⟩ := h
  have hin : ∀ w ∈ am_pick gs tbl, w ∈ K.1 := fun w hw => by
    rw [hK]
    exact List.mem_filter.mpr ⟨am_pick_mem hw, List.all_eq_true.mp h1 w hw⟩
  have hf := am_fl_at (bs := me.2.1.data.toList) rfl h3 hi
  unfold am_f1 at hf
  obtain ⟨f1, f2⟩ := Bool.and_eq_true_iff.mp hf
  obtain ⟨f2, f3⟩ := Bool.and_eq_true_iff.mp f2
  have hd : decode me.2.1 pc = .ok (t.1, t.2.1) := by
    rcases Bool.or_eq_true_iff.mp f2 with q | q
    · exact ckI_ok q
    · exact of_decide_eq_true q
  rcases Bool.or_eq_true_iff.mp f3 with q | q
  · exact am_vb_ok heo hcd hXL hd f1 (fun w hw => by rw [am_plain_w q] at hw; cases hw) (am_plain_s q)
  · split at q
    · rename_i u hu
      have e := am_same_ok q
      rw [← e] at hu
      obtain ⟨v1, v2, v3⟩ := hv _ _ hu
      exact am_vb_ok heo hcd hXL hd f1 (fun w hw => v1 w (by rw [← e1]; exact hw)) (am_sd_0 e1 e2 v3 v2)
    · unfold am_ask at q
      simp only [Bool.and_eq_true, decide_eq_true_eq] at q
      obtain ⟨⟨⟨a1, a2⟩, a3⟩, a4⟩ := q
      refine am_vb_ok heo hcd hXL a1 a2 (fun w hw => ?_) a4
      rw [a3] at hw
      exact hin w (am_nth_mem hw)
end FMC
