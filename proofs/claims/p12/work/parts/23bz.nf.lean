/-! ===== BEHIND A CALL: what it wrote is laid over what was there, entry by entry ===== -/
def ali {α : Type} (l l2 l' : List (Nat × α)) : Prop := match l, l2, l' with
  | [], [], [] => True
  | q :: r, [], q' :: r' => q.1 = q'.1 ∧ q.2 = q'.2 ∧ ali r [] r'
  | q :: r, p :: s, q' :: r' => bif Nat.beq p.1 q.1 then (q.1 = q'.1 ∧ p.2 = q'.2 ∧ ali r s r') else (Nat.blt q.1 p.1 = true ∧ q.1 = q'.1 ∧ q.2 = q'.2 ∧ ali r (p :: s) r')
  | _, _, _ => False
theorem olk_no {α : Type} {l : List (Nat × α)} {k : Nat} (h : ∀ q ∈ l, k < q.1) (d : α) : olk l k d = d := by
  induction l with
  | nil => rfl
  | cons q r ih =>
    show (if q.1 = k then q.2 else olk r k d) = d
    have := h q List.mem_cons_self
    rw [if_neg (by omega)]
    exact ih (fun p hp => h p (List.mem_cons_of_mem _ hp))
theorem ali_ok {α : Type} (l : List (Nat × α)) : ∀ (l2 l' : List (Nat × α)), ali l l2 l' → l2.Pairwise (fun a b => a.1 < b.1) → ∀ (k : Nat) (d : α), olk l' k d = olk l2 k (olk l k d) := by
  induction l with
  | nil =>
    intro l2 l' h hp k d
    match l2, l', h with
    | [], [], _ => rfl
  | cons q r ih =>
    intro l2 l' h hp k d
    match l2, l', h with
    | [], q' :: r', h =>
      obtain ⟨h1, h2, h3⟩ := h
      have := ih [] r' h3 List.Pairwise.nil k d
      show (if q'.1 = k then q'.2 else olk r' k d) = (if q.1 = k then q.2 else olk r k d)
      rw [← h1, ← h2, this]
      rfl
    | p :: s, q' :: r', h =>
      have h : (bif Nat.beq p.1 q.1 then (q.1 = q'.1 ∧ p.2 = q'.2 ∧ ali r s r') else (Nat.blt q.1 p.1 = true ∧ q.1 = q'.1 ∧ q.2 = q'.2 ∧ ali r (p :: s) r')) := h
      cases hb : Nat.beq p.1 q.1 with
      | true =>
        rw [hb] at h
        obtain ⟨h1, h2, h3⟩ := h
        have e : p.1 = q.1 := Nat.eq_of_beq_eq_true hb
        have hi := ih s r' h3 (List.pairwise_cons.mp hp).2 k d
        show (if q'.1 = k then q'.2 else olk r' k d) = (if p.1 = k then p.2 else olk s k (if q.1 = k then q.2 else olk r k d))
        rw [← h1, ← h2, e, hi]
        by_cases hk : q.1 = k
        · rw [if_pos hk, if_pos hk]
        · rw [if_neg hk, if_neg hk, if_neg hk]
      | false =>
        rw [hb] at h
        obtain ⟨h0, h1, h2, h3⟩ := h
        have hlt : q.1 < p.1 := by
          rw [Nat.blt_eq] at h0
          exact h0
        have hi := ih (p :: s) r' h3 hp k d
        show (if q'.1 = k then q'.2 else olk r' k d) = olk (p :: s) k (if q.1 = k then q.2 else olk r k d)
        rw [← h1, ← h2, hi]
        by_cases hk : q.1 = k
        · rw [if_pos hk, if_pos hk]
          refine (olk_no (fun t ht => ?_) _).symm
          rcases List.mem_cons.mp ht with rfl | ht
          · omega
          · have := (List.pairwise_cons.mp hp).1 t ht
            omega
        · rw [if_neg hk, if_neg hk]
theorem T_nf2 {w : wX} {D : Nat} {me : am_M} {Q : ag_Re af_T → Prop} {pc nc ns N : Nat} {lv : List (Nat × Value)} {st : List Value} {m : mR} {c : Nat → Option am_C} {l l' l2 : List (Nat × Int)} {a a' a2 : List (Nat × (Int → Int))} {st' : List Value} (ks js : List Nat) (hs : st = st') (hl : ali l l2 l') (ha : ali a a2 a') (k1 : l2.map Prod.fst = ks) (k2 : a2.map Prod.fst = js) (s1 : srt ks = true) (s2 : srt js = true) (h : TT w D me (pc, lv, st', (mhp (mO m l' a') c, N), nc, ns) Q) : TT w D me (pc, lv, st, (mhp (mO (mO m l a) l2 a2) c, N), nc, ns) Q := by
  subst hs
  have e : mO (mO m l a) l2 a2 = mO m l' a' := by
    unfold mO
    refine Prod.ext ?_ ?_
    · funext k
      exact (ali_ok l l2 l' hl (srt_ok (by rw [k1]; exact s1)) k _).symm
    · funext k
      exact (ali_ok a a2 a' ha (srt_ok (by rw [k2]; exact s2)) k _).symm
  rw [e]
  exact h
