/-! ===== FASTER TABLES FOR RECKONING: each place holds what its instruction does ===== -/
abbrev kg_F : Type := ag_X → am_En → Nat → ag_Ca at_T → ag_St at_T → ag_SR at_T
def kp (F : am_F) (nL : Nat) : kg_F := fun _ _ _ _ S => ag_lift (F nL S.1 S.2.1 S.2.2.1) S.2.2.2.1 S.2.2.2.2.1 S.2.2.2.2.2
def ks (c nL : Nat) : kg_F := fun _ E _ _ S => ag_lift (am_push (am_gs E.2.2.2.2.2.2 c) 3 nL S.1 S.2.1 S.2.2.1) S.2.2.2.1 S.2.2.2.2.1 S.2.2.2.2.2
def kh (F : Nat → List (Nat × Value) → List Value → at_T → ag_RH at_T) : kg_F := fun _ _ _ _ S => ag_liftH (F S.1 S.2.1 S.2.2.1 S.2.2.2.1) S.2.2.2.2.1 S.2.2.2.2.2
def kx (a : Nat) : kg_F := fun _ E _ _ S => ag_liftH (ag_out (am_xgetf E.2.1.1 a S.1 S.2.1 S.2.2.1 []) S.2.2.2.1) S.2.2.2.2.1 S.2.2.2.2.2
def kia : kg_F := fun X _ _ _ S => ag_liftH (ag_iaload at_O X S.1 S.2.1 S.2.2.1 S.2.2.2.1) S.2.2.2.2.1 S.2.2.2.2.2
def kba : kg_F := fun _ E _ _ S => ag_liftH (ag_baload at_O E S.1 S.2.1 S.2.2.1 S.2.2.2.1) S.2.2.2.2.1 S.2.2.2.2.2
def kal : kg_F := fun X E _ _ S => ag_liftH (ag_alength at_O X E S.1 S.2.1 S.2.2.1 S.2.2.2.1) S.2.2.2.2.1 S.2.2.2.2.2
def kr (F : List Value → List am_C → Nat → Nat → am_SR) : kg_F := fun _ _ _ _ S => ag_end (F S.2.2.1 [] S.2.2.2.2.1 S.2.2.2.2.2) S.2.2.2.1
def ki (rows : List (Nat × Nat × Nat × Nat)) (a b c : Nat) : kg_F := fun _ E _ call S => ag_invoke at_O 8192 E call rows nm_cn a b c S
def km (rows : List (Nat × Nat × Nat × Nat)) (a b c : Nat) : kg_F := fun _ E dd _ S => ag_make at_O 8192 E dd rows a b c S
def ka (a : Nat) : kg_F := fun _ _ _ _ S => ag_newa at_O 8192 a S
def kq (a : Nat) : kg_F := fun _ _ _ _ S => ag_newq at_O 8192 a S
def kg_run (X : ag_X) (E : am_En) (tab : Nat → Option kg_F) (dd : Nat) (call : ag_Ca at_T) (n : Nat) (S : ag_St at_T) : Option (ag_Re at_T) := match n with
  | 0 => none
  | n + 1 => match tab S.1 with
    | some F => match F X E dd call S with
      | some (.inl S') => kg_run X E tab dd call n S'
      | some (.inr r) => some r
      | none => none
    | none => none
def kg_go (X : ag_X) (E : am_En) (tab : Nat → Option kg_F) (dd : Nat) (call : ag_Ca at_T) (n : Nat) (S : ag_St at_T) : Option (ag_St at_T) := match n with
  | 0 => some S
  | n + 1 => match tab S.1 with
    | some F => match F X E dd call S with
      | some (.inl S') => kg_go X E tab dd call n S'
      | _ => none
    | none => none
def kg_call (X : ag_X) (E : am_En) (kpg : Nat → Option (Nat × (Nat → Option kg_F))) (fuel d : Nat) : ag_Ca at_T := match d with
  | 0 => fun _ _ _ => none
  | d + 1 => fun mi av t => match kpg mi with
    | some q => if am_cat av ≤ q.1 then kg_run X E q.2 (d + 1) (kg_call X E kpg fuel d) fuel (0, lv_args 0 av, [], t, 0, 0) else none
    | none => none
/-- an entry does what its instruction does -/
def kg_P (X : ag_X) (E : am_En) (me : am_M) (pc : Nat) (F : kg_F) : Prop := ∃ i, me.2.2.2.2.2 pc = some i ∧ ∀ dd call S, F X E dd call S = ag_step at_O 8192 X E nm_cn dd call me i S
def kg_Q (X : ag_X) (E : am_En) (me : am_M) (q : Nat × (Nat → Option kg_F)) : Prop := q.1 = me.2.2.1 ∧ ∀ pc F, q.2 pc = some F → kg_P X E me pc F
theorem kn_lf {X : ag_X} {E : am_En} {me : am_M} {pc k : Nat} {F0 F : kg_F} (h : kg_P X E me k F0) : kl k F0 pc = some F → kg_P X E me pc F := by
  intro e
  unfold kl at e
  cases hb : Nat.beq pc k with
  | false => rw [hb] at e; cases e
  | true =>
    rw [hb] at e
    cases e
    rw [Nat.eq_of_beq_eq_true hb]
    exact h
theorem kn_mi {X : ag_X} {E : am_En} {mi k : Nat} {q0 q : Nat × (Nat → Option kg_F)} (h : kg_Q X E (pg k) q0) : kl k q0 mi = some q → kg_Q X E (pg mi) q := by
  intro e
  unfold kl at e
  cases hb : Nat.beq mi k with
  | false => rw [hb] at e; cases e
  | true =>
    rw [hb] at e
    cases e
    rw [Nat.eq_of_beq_eq_true hb]
    exact h
section KG
variable {X : ag_X} {e1 e1' : Nat × (Nat → Int32)} {e2 : (List Nat × List (List Int32)) × (Nat → Nat → FieldType) × (Nat → List Value) × (Nat → Nat) × (Nat → Nat) × Value} {dd : Nat} {me : am_M} {tab : Nat → Option kg_F}
theorem kg_run_ok {call : ag_Ca at_T} {call' : am_Ca} (hX : ag_Xok X e1') (hT : ∀ pc F, tab pc = some F → kg_P X (e1, e2) me pc F)
    (hc : ∀ mi av t h r, at_R t h → call mi av t = some r → ∃ h', call' mi av h = some (r.1, h', r.2.2.1, r.2.2.2) ∧ at_R r.2.1 h') : ∀ (n : Nat) (S : ag_St at_T) (h : List am_C) (r : ag_Re at_T), at_R S.2.2.2.1 h → kg_run X (e1, e2) tab dd call n S = some r →
      ∃ h', am_run (e1', e2) nm_cn dd call' me n (ag_with S h) = some (r.1, h', r.2.2.1, r.2.2.2) ∧ at_R r.2.1 h' := by
  intro n
  induction n with
  | zero => intro S h r _ hr; cases hr
  | succ n ih =>
    intro S h r hR hr
    unfold kg_run at hr
    split at hr
    · rename_i F hF
      obtain ⟨i, hi, hs9⟩ := hT _ _ hF
      have hi' : me.2.2.2.2.2 (ag_with S h).1 = some i := hi
      unfold am_run
      rw [hi']
      dsimp only
      rw [hs9] at hr
      split at hr
      · rename_i S' hs
        obtain ⟨y, e, hy⟩ := ag_step_ok (call' := call') at_ok hX hc hR hs
        obtain ⟨pc, lv, st, t, nc, ns⟩ := S'
        obtain ⟨h', rfl, hR'⟩ := hy
        rw [e]
        exact ih (pc, lv, st, t, nc, ns) h' r hR' hr
      · rename_i r' hs
        cases hr
        obtain ⟨y, e, hy⟩ := ag_step_ok (call' := call') at_ok hX hc hR hs
        obtain ⟨v, t, k, m⟩ := r
        obtain ⟨h', rfl, hR'⟩ := hy
        rw [e]
        exact ⟨h', rfl, hR'⟩
      · cases hr
    · cases hr
theorem kg_call_ok {kpg : Nat → Option (Nat × (Nat → Option kg_F))} (hX : ag_Xok X e1') (hT : ∀ mi q, kpg mi = some q → kg_Q X (e1, e2) (pg mi) q) (fuel : Nat) : ∀ (d mi : Nat) (av : List Value) (t : at_T) (h : List am_C) (r : ag_Re at_T), at_R t h → kg_call X (e1, e2) kpg fuel d mi av t = some r →
    ∃ h', am_call (e1', e2) nm_cn pg fuel d mi av h = some (r.1, h', r.2.2.1, r.2.2.2) ∧ at_R r.2.1 h' := by
  intro d
  induction d with
  | zero => intro mi av t h r _ hr; cases hr
  | succ d ih =>
    intro mi av t h r hR hr
    unfold kg_call at hr
    unfold am_call
    split at hr
    · rename_i q hq
      obtain ⟨q1, q2⟩ := hT mi q hq
      split at hr
      · rename_i hz
        rw [q1] at hz
        rw [if_pos hz]
        exact kg_run_ok hX q2 ih fuel (0, lv_args 0 av, [], t, 0, 0) h r hR hr
      · cases hr
    · cases hr
theorem kg_go_ok {call : ag_Ca at_T} {call' : am_Ca} (hX : ag_Xok X e1') (hT : ∀ pc F, tab pc = some F → kg_P X (e1, e2) me pc F)
    (hc : ∀ mi av t h r, at_R t h → call mi av t = some r → ∃ h', call' mi av h = some (r.1, h', r.2.2.1, r.2.2.2) ∧ at_R r.2.1 h') : ∀ (n : Nat) (S S1 : ag_St at_T) (h : List am_C), at_R S.2.2.2.1 h → kg_go X (e1, e2) tab dd call n S = some S1 →
      ∃ h', at_R S1.2.2.2.1 h' ∧ ∀ k, am_run (e1', e2) nm_cn dd call' me (n + k) (ag_with S h) = am_run (e1', e2) nm_cn dd call' me k (ag_with S1 h') := by
  intro n
  induction n with
  | zero => intro S S1 h hR hr; cases hr; exact ⟨h, hR, fun k => by rw [Nat.zero_add]⟩
  | succ n ih =>
    intro S S1 h hR hr
    unfold kg_go at hr
    split at hr
    · rename_i F hF
      obtain ⟨i, hi, hs9⟩ := hT _ _ hF
      have hi' : me.2.2.2.2.2 (ag_with S h).1 = some i := hi
      rw [hs9] at hr
      split at hr
      · rename_i S' hs
        obtain ⟨y, e, hy⟩ := ag_step_ok (call' := call') at_ok hX hc hR hs
        obtain ⟨pc, lv, st, t, nc, ns⟩ := S'
        obtain ⟨h', rfl, hR'⟩ := hy
        obtain ⟨h2, hR2, hk⟩ := ih (pc, lv, st, t, nc, ns) S1 h' hR' hr
        refine ⟨h2, hR2, fun k => ?_⟩
        rw [show n + 1 + k = (n + k) + 1 by omega]
        rw [am_run]
        rw [hi']
        dsimp only
        rw [e]
        exact hk k
      · cases hr
    · cases hr
end KG
