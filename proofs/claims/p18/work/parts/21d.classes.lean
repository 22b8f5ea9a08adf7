/-! ===== THE PURE MACHINE, part 25b: classes by reckoning, and a whole program ===== -/
def am_noref (v : Value) : Bool := match v with
  | .ref _ => false
  | _ => true
def am_cchk (E : am_En) (tbl : List Cond) (ci : Nat) (q : vw_C) (gs : List Nat) : Bool :=
  (am_pick gs tbl).all am_carry && (u_ws q.1 q.2.1 q.2.2).all (fun w => decide (w ∈ am_pick gs tbl)) &&
  (List.range q.2.2).all (fun a => (List.range q.2.2).all (fun b => decide (a = b) || decide ((q.2.1 a).2.1 ≠ (q.2.1 b).2.1))) &&
  (List.range q.2.2).all (fun k => decide (parseFieldDescriptor (q.2.1 k).2.2.1 = some (E.2.2.1 ci k)) && decide (defaultValue (E.2.2.1 ci k) = vp_V (E.2.2.2.1 ci) k)) &&
  decide ((E.2.2.2.1 ci).length = q.2.2) && (E.2.2.2.1 ci).all am_noref
theorem am_cchk_ok {E : am_En} {tbl : List Cond} {K : am_Ta} {ci : Nat} {C : String} {T : u_T} {N : Nat} {gs : List Nat} (hK : K.1 = tbl.filter am_carry) (h : am_cchk E tbl ci (C, T, N) gs = true) :
    am_classOk K C T N ∧ (∀ k, k < N → parseFieldDescriptor (T k).2.2.1 = some (E.2.2.1 ci k)) ∧ (∀ j, j < N → defaultValue (E.2.2.1 ci j) = vp_V (E.2.2.2.1 ci) j) ∧ (E.2.2.2.1 ci).length = N ∧ (∀ v ∈ E.2.2.2.1 ci, ∀ ad : Nat → Nat, am_v ad v = v) ∧ ∀ k, am_okS k (E.2.2.2.1 ci) := by
  unfold am_cchk at h
  simp only [Bool.and_eq_true] at h
  obtain ⟨⟨⟨⟨⟨h1, h2⟩, h3⟩, h4⟩, h5⟩, h6⟩ := h
  have hin : ∀ w ∈ am_pick gs tbl, w ∈ K.1 := fun w hw => by
    rw [hK]
    exact List.mem_filter.mpr ⟨am_pick_mem hw, List.all_eq_true.mp h1 w hw⟩
  refine ⟨⟨fun w hw => hin w (of_decide_eq_true (List.all_eq_true.mp h2 w hw)), fun a ha b hb hab => ?_⟩, fun k hk => ?_, fun j hj => ?_, of_decide_eq_true h5, fun v hv ad => ?_, fun k v hv => ?_⟩
  · have := List.all_eq_true.mp (List.all_eq_true.mp h3 a (List.mem_range.mpr ha)) b (List.mem_range.mpr hb)
    simp only [Bool.or_eq_true, decide_eq_true_eq] at this
    rcases this with z | z
    · exact absurd z hab
    · exact z
  · have := List.all_eq_true.mp h4 k (List.mem_range.mpr hk)
    rw [Bool.and_eq_true] at this
    exact of_decide_eq_true this.1
  · have := List.all_eq_true.mp h4 j (List.mem_range.mpr hj)
    rw [Bool.and_eq_true] at this
    exact of_decide_eq_true this.2
  · have := List.all_eq_true.mp h6 v hv
    cases v <;> first | rfl | (exact Bool.noConfusion (show false = true from this))
  · have := List.all_eq_true.mp h6 v hv
    cases v <;> first | exact True.intro | (exact Bool.noConfusion (show false = true from this))
theorem am_off {n pc : Nat} {x : Option am_I} (h : n ≤ pc) : (bif Nat.blt pc n then x else none) = none := by
  have : Nat.blt pc n = false := by
    cases hb : Nat.blt pc n with
    | false => rfl
    | true => exact absurd (Nat.le_of_ble_eq_true hb) (by omega)
  rw [this]
  rfl
