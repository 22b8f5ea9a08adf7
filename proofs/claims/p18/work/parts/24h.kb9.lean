section KAL
variable {w : wX} {D : Nat} {me : am_M} {Q : ag_Re af_T → Prop} {pc nc ns N : Nat} {lv : List (Nat × Value)} {st : List Value} {h : Nat → Option am_C} {c : Nat → Option am_C} {m : mR} {l : List (Nat × Int)} {a : List (Nat × (Int → Int))}
theorem G_alen (pc' : Nat) {len p p' p'' q u : Nat} {A : vp_A} {L : Int} (hi : me.2.2.2.2.2 pc = some (.arraylength, len, p, p', p'')) (hq : q < 1000000) (hc : h q = some (.inl (u, A))) (hu : u < 6) (hL : Int32.ofNat A.1 = i32 L) (hp : pc + 1 = pc') (H : TT w D me (pc', lv, .int (i32 L) :: st, (h, N), nc, ns) Q) : TT w D me (pc, lv, .ref q :: st, (h, N), nc, ns) Q := by
  subst hp
  refine Tm_step hi (fun call => ?_) H
  show ag_liftH (ag_alength af_O w.1 (nm_E w.2.1 w.2.2.1 w.2.2.2) pc lv (.ref q :: st) (h, N)) nc ns = _
  unfold ag_alength
  dsimp only
  rw [if_pos hq]
  unfold ag_do ad_alen
  dsimp only
  unfold ag_acc
  rw [show af_O.1 (h, N) q = _ from hc]
  dsimp only
  rw [if_pos hu, hL]
  rfl
theorem kar1_k (K : mR) (y n k : Nat) (t : Int) : ∃ B, kar1 K y n k t = .inl (y, n, B) := by
  unfold kar1
  split
  · exact ⟨_, rfl⟩
  · exact ⟨_, rfl⟩
theorem K_alent (pc' i : Nat) {len p p' p'' : Nat} {t L : Int} (hi : me.2.2.2.2.2 pc = some (.arraylength, len, p, p', p'')) (hk : (decide (i < 12) && decide (tty i < 6)) = true) (h0 : 0 ≤ t) (h1 : t < 8) (hL : Int32.ofNat (tln i) = i32 L) (hp : pc + 1 = pc') (H : TT w D me (pc', lv, .int (i32 L) :: st, (khp (mO m l a) c, N), nc, ns) Q) : TT w D me (pc, lv, .ref (tbr t + (i + 1)) :: st, (khp (mO m l a) c, N), nc, ns) Q := by
  simp only [Bool.and_eq_true, decide_eq_true_eq] at hk
  obtain ⟨B, hB⟩ := kar1_k (mO m l a) (tty i) (tln i) (79 + i) t
  have hc := khp_t1 (c := c) (mO m l a) h0 h1 hk.1
  rw [hB] at hc
  exact G_alen pc' hi (by unfold tbr; omega) hc hk.2 hL hp H
theorem K_aleno (pc' i : Nat) {len p p' p'' q : Nat} {r L : Int} (hi : me.2.2.2.2.2 pc = some (.arraylength, len, p, p', p'')) (hk : (decide (i < 6) && decide (oty i < 6)) = true) (hr : OKr (mO m l a) r) (hq : obr (mO m l a) r = q) (hL : Int32.ofNat (oln i) = i32 L) (hp : pc + 1 = pc') (H : TT w D me (pc', lv, .int (i32 L) :: st, (khp (mO m l a) c, N), nc, ns) Q) : TT w D me (pc, lv, .ref (q + (i + 1)) :: st, (khp (mO m l a) c, N), nc, ns) Q := by
  simp only [Bool.and_eq_true, decide_eq_true_eq] at hk
  subst hq
  obtain ⟨B, hB⟩ := kar1_k (mO m l a) (oty i) (oln i) (100 + i) r
  have hc := khp_o1 (c := c) (mO m l a) hr hk.1
  rw [hB] at hc
  have hb := hr.2.2.2.1
  exact G_alen pc' hi (by unfold obr; omega) hc hk.2 hL hp H
end KAL
