/-! ===== FRAMES: what a piece of a walk leaves as it was ===== -/
def nin (l : List Nat) (k : Nat) : Bool := match l with
  | [] => true
  | q :: r => bif Nat.beq q k then false else nin r k
def sbl (u w : List Nat) : Bool := match w with
  | [] => (match u with
    | [] => true
    | _ :: _ => false)
  | b :: s => (match u with
    | [] => true
    | a :: r => bif Nat.beq a b then sbl r s else sbl (a :: r) s)
theorem nin_c {b k : Nat} {s : List Nat} (h : nin (b :: s) k = true) : Nat.beq b k = false ∧ nin s k = true := by
  have h' : (bif Nat.beq b k then false else nin s k) = true := h
  cases hb : Nat.beq b k with
  | true => rw [hb] at h'; exact absurd (show false = true from h') (by decide)
  | false => rw [hb] at h'; exact ⟨rfl, h'⟩
theorem sbl_nin : ∀ (w u : List Nat), sbl u w = true → ∀ k, nin w k = true → nin u k = true := by
  intro w
  induction w with
  | nil =>
    intro u h k hk
    match u, h with
    | [], _ => rfl
  | cons b s ih =>
    intro u h k hk
    obtain ⟨k1, k2⟩ := nin_c hk
    match u, h with
    | [], _ => rfl
    | a :: r, h =>
      have h' : (bif Nat.beq a b then sbl r s else sbl (a :: r) s) = true := h
      cases hb : Nat.beq a b with
      | true =>
        rw [hb] at h'
        have e : a = b := Nat.eq_of_beq_eq_true hb
        show (bif Nat.beq a k then false else nin r k) = true
        rw [e, k1]
        exact ih r h' k k2
      | false =>
        rw [hb] at h'
        exact ih (a :: r) h' k k2
def fr (u v : List Nat) (x y : mR) : Prop := (∀ k, nin u k = true → y.1 k = x.1 k) ∧ (∀ k, nin v k = true → y.2 k = x.2 k)
theorem fr1 {u v : List Nat} {x y : mR} (h : fr u v x y) (k : Nat) (hk : nin u k = true) : y.1 k = x.1 k := h.1 k hk
theorem fr2 {u v : List Nat} {x y : mR} (h : fr u v x y) (k : Nat) (hk : nin v k = true) : y.2 k = x.2 k := h.2 k hk
theorem fr_0 {u v : List Nat} {x : mR} : fr u v x x := ⟨fun _ _ => rfl, fun _ _ => rfl⟩
theorem fr_s {u v u' v' : List Nat} {x y z : mR} (hF : fr u v y z) (h : fr u' v' x y) (s1 : sbl u u' = true) (s2 : sbl v v' = true) : fr u' v' x z := ⟨fun k hk => (hF.1 k (sbl_nin _ _ s1 k hk)).trans (h.1 k hk), fun k hk => (hF.2 k (sbl_nin _ _ s2 k hk)).trans (h.2 k hk)⟩
theorem olk_nin {α : Type} {l : List (Nat × α)} {k : Nat} (d : α) (h : nin (l.map Prod.fst) k = true) : olk l k d = d := by
  induction l with
  | nil => rfl
  | cons q r ih =>
    obtain ⟨h1, h2⟩ := nin_c (b := q.1) (s := r.map Prod.fst) h
    show (if q.1 = k then q.2 else olk r k d) = d
    rw [if_neg (fun e => by rw [e] at h1; exact absurd (Nat.beq_refl k) (by rw [h1]; decide))]
    exact ih h2
theorem fr_m {u v : List Nat} {x y : mR} {l : List (Nat × Int)} {a : List (Nat × (Int → Int))} (h : fr u v x y) (s1 : sbl (l.map Prod.fst) u = true) (s2 : sbl (a.map Prod.fst) v = true) : fr u v x (mO y l a) := ⟨fun k hk => (olk_nin _ (sbl_nin _ _ s1 k hk)).trans (h.1 k hk), fun k hk => (olk_nin _ (sbl_nin _ _ s2 k hk)).trans (h.2 k hk)⟩
theorem mfv_c {M : mR} {k : Nat} {x : Int} {F : Int → Value} (h : mfv M k = F (M.1 k)) (e : M.1 k = x) : mfv M k = F x := by
  rw [← e]
  exact h
theorem T_nb {w : wX} {D : Nat} {me : am_M} {Q : ag_Re af_T → Prop} {pc nc ns N : Nat} {lv : List (Nat × Value)} {st : List Value} {m : mR} {c : Nat → Option am_C} {st' : List Value} (hs : st = st') (h : TT w D me (pc, lv, st', (mhp (mO m [] []) c, N), nc, ns) Q) : TT w D me (pc, lv, st, (mhp m c, N), nc, ns) Q := by
  subst hs
  exact h
theorem T_ns {w : wX} {D : Nat} {me : am_M} {Q : ag_Re af_T → Prop} {pc nc ns : Nat} {lv : List (Nat × Value)} {st : List Value} {t : af_T} {st' : List Value} (hs : st = st') (h : TT w D me (pc, lv, st', t, nc, ns) Q) : TT w D me (pc, lv, st, t, nc, ns) Q := by
  subst hs
  exact h
theorem mO_nil (x : mR) : mO x [] [] = x := rfl
theorem T_fl {w : wX} {D : Nat} {me : am_M} {Q : ag_Re af_T → Prop} {pc nc ns N : Nat} {lv : List (Nat × Value)} {st : List Value} {m : mR} {c : Nat → Option am_C} {l : List (Nat × Int)} {a : List (Nat × (Int → Int))} (ht : Ty (mO m l a)) (h : ∀ b, Ty b → fr [] [] (mO m l a) b → TT w D me (pc, lv, st, (mhp (mO b [] []) c, N), nc, ns) Q) : TT w D me (pc, lv, st, (mhp (mO m l a) c, N), nc, ns) Q := by
  have H := h (mO m l a) ht fr_0
  rw [mO_nil (mO m l a)] at H
  exact H
