/-! ===== TABLES WITHOUT A VARIABLE IN THEM, AND THEIR CHECKS A FEW ENTRIES AT A TIME ===== -/
/-- a fork, a leaf -/
def kb {α : Type} (k : Nat) (l r : Nat → Option α) : Nat → Option α := fun pc => bif Nat.blt pc k then l pc else r pc
def kl {α : Type} (k : Nat) (F : α) : Nat → Option α := fun pc => bif Nat.beq pc k then some F else none
theorem kn_bi {α : Type} {k pc : Nat} {l r : Nat → Option α} {F : α} {P : Prop} (h1 : l pc = some F → P) (h2 : r pc = some F → P) : kb k l r pc = some F → P := by
  unfold kb
  cases Nat.blt pc k
  · exact h2
  · exact h1
theorem kn_l {α : Type} {k pc : Nat} {F0 F : α} (h : kl k F0 pc = some F) : pc = k ∧ F0 = F := by
  unfold kl at h
  cases hb : Nat.beq pc k with
  | false => rw [hb] at h; cases h
  | true =>
    rw [hb] at h
    cases h
    exact ⟨Nat.eq_of_beq_eq_true hb, rfl⟩
def am_lchk (E : am_En) (tbl : List Cond) (cl : List vw_C) (refs : List (String × Nat × String × Nat)) (xn : Nat → String) (cn : Nat → Nat) (pg : Nat → am_M) (np : Nat → Nat) (cd : Nat → Bool) (XL : List (String × Nat × Nat)) (me : am_M) (gs : List Nat) (L : List (Nat × am_I × List Nat)) : Bool :=
  (am_pick gs tbl).all am_carry && L.all (fun q => am_ask E cl refs xn cn pg np cd XL me (am_pick gs tbl) q.1 q.2.1 q.2.2)
theorem am_lchk_at {E : am_En} {tbl : List Cond} {K : am_Ta} {cn : Nat → Nat} {pg : Nat → am_M} {np : Nat → Nat} {cd : Nat → Bool} {XL : List (String × Nat × Nat)} {me : am_M} {gs : List Nat} {L : List (Nat × am_I × List Nat)} (hK : K.1 = tbl.filter am_carry) (heo : ∀ a, am_eo (pg a) (np a) = true) (hcd : ∀ a, cd a = true → ((pg a).2.2.2.2.1 = [] → Cond.code (pg a).1 (pg a).2.1 (pg a).2.2.1 (pg a).2.2.2.1 ∈ K.1) ∧ (¬ (pg a).2.2.2.2.1 = [] → Cond.codeWith (pg a).1 (pg a).2.1 (pg a).2.2.1 (pg a).2.2.2.1 (pg a).2.2.2.2.1 ∈ K.1))
    (hXL : ∀ q ∈ XL, (∀ w ∈ Bundle.ownAtoms q.1 q.2.1 (K.2.2.2.1 q.2.2) K.2.2.2.2, am_xw w) ∧ (∀ w ∈ Bundle.ownAtoms q.1 q.2.1 (K.2.2.2.1 q.2.2) K.2.2.2.2, am_carry w = true → w ∈ K.1))
    (h : am_lchk E tbl K.2.1 K.2.2.1 K.2.2.2.1 cn pg np cd XL me gs L = true) {i pc : Nat} {t : am_I} {js : List Nat} (hi : L[i]? = some (pc, t, js)) : am_V E K cn pg me pc t := by
  unfold am_lchk at h
  rw [Bool.and_eq_true] at h
  obtain ⟨h1, h3⟩ := h
  have hin : ∀ w ∈ am_pick gs tbl, w ∈ K.1 := fun w hw => by
    rw [hK]
    exact List.mem_filter.mpr ⟨am_pick_mem hw, List.all_eq_true.mp h1 w hw⟩
  have hjs := List.all_eq_true.mp h3 _ (List.mem_of_getElem? hi)
  unfold am_ask at hjs
  simp only [Bool.and_eq_true, decide_eq_true_eq] at hjs
  obtain ⟨⟨⟨a1, a2⟩, a3⟩, a4⟩ := hjs
  refine am_vb_ok heo hcd hXL a1 a2 (fun w hw => ?_) a4
  rw [a3] at hw
  exact hin w (am_nth_mem hw)
def am_rchk (E : am_En) (tbl : List Cond) (xn : Nat → String) (me : am_M) (gs : List Nat) : Bool := (am_pick gs tbl).all am_carry && am_rowAsk E xn me (am_pick gs tbl)
theorem am_rchk_ok {E : am_En} {tbl : List Cond} {K : am_Ta} {me : am_M} {gs : List Nat} (hK : K.1 = tbl.filter am_carry) (h : am_rchk E tbl K.2.2.2.1 me gs = true) :
    ∀ r ∈ me.2.2.2.2.1, r.2.2.2 ≠ 0 ∧ E.2.2.2.2.2.1 r.2.2.2 < 3 ∧ Cond.classLink me.1.cls r.2.2.2 (K.2.2.2.1 (E.2.2.2.2.2.1 r.2.2.2)) ∈ K.1 ∧ Cond.castable (K.2.2.2.1 (E.2.2.2.2.2.1 r.2.2.2)) (K.2.2.2.1 (E.2.2.2.2.2.1 r.2.2.2)) ∈ K.1 := by
  unfold am_rchk at h
  rw [Bool.and_eq_true] at h
  obtain ⟨h1, h2⟩ := h
  have hin : ∀ w ∈ am_pick gs tbl, w ∈ K.1 := fun w hw => by
    rw [hK]
    exact List.mem_filter.mpr ⟨am_pick_mem hw, List.all_eq_true.mp h1 w hw⟩
  intro r hr
  have := List.all_eq_true.mp h2 r hr
  simp only [Bool.and_eq_true, decide_eq_true_eq] at this
  obtain ⟨⟨⟨b1, b2⟩, b3⟩, b4⟩ := this
  exact ⟨b1, b2, hin _ b3, hin _ b4⟩
