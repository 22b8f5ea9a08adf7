/-! ===== STATES, STATEMENTS, TABLES, STEPS that have been read ===== -/
def dcN (so : Int → Int) (n : Nat) : Int := match n with
  | 0 => 0
  | n + 1 => dcN so n + (if 0 ≤ so n then 1 else 0)
def dc (so : Int → Int) (n : Int) : Int := dcN so n.toNat
theorem dc_s (so : Int → Int) {n : Int} (h : 0 ≤ n) : dc so (n + 1) = dc so n + (if 0 ≤ so n then 1 else 0) := by
  obtain ⟨k, rfl⟩ := Int.eq_ofNat_of_zero_le h
  rfl
theorem dcN_0 (so : Int → Int) (n : Nat) : 0 ≤ dcN so n ∧ dcN so n ≤ n := by
  induction n with
  | zero => exact ⟨Int.le_refl _, Int.le_refl _⟩
  | succ n ih =>
    show 0 ≤ dcN so n + (if 0 ≤ so n then 1 else 0) ∧ dcN so n + (if 0 ≤ so n then 1 else 0) ≤ ((n + 1 : Nat) : Int)
    split <;> omega
theorem dcN_lt {so : Int → Int} {s : Int} (h0 : 0 ≤ s) (h2 : so s < 0) (n : Nat) (h1 : s < n) : dcN so n + 1 ≤ n := by
  induction n with
  | zero => omega
  | succ n ih =>
    show dcN so n + (if 0 ≤ so n then 1 else 0) + 1 ≤ ((n + 1 : Nat) : Int)
    by_cases e : s = n
    · subst e
      have := dcN_0 so n
      rw [if_neg (by omega)]
      omega
    · have := ih (by omega)
      split <;> omega
theorem dcN_up {so : Int → Int} {i x : Int} (n : Nat) (h : n ≤ i) : dcN (upI so i x) n = dcN so n := by
  induction n with
  | zero => rfl
  | succ n ih =>
    show dcN (upI so i x) n + (if 0 ≤ upI so i x n then 1 else 0) = dcN so n + (if 0 ≤ so n then 1 else 0)
    rw [ih (by omega), upI_n (by omega)]
theorem dcN_set {so : Int → Int} {i x : Int} (h0 : 0 ≤ i) (h2 : so i < 0) (hx : 0 ≤ x) (n : Nat) (h1 : i < n) : dcN (upI so i x) n = dcN so n + 1 := by
  induction n with
  | zero => omega
  | succ n ih =>
    show dcN (upI so i x) n + (if 0 ≤ upI so i x n then 1 else 0) = dcN so n + (if 0 ≤ so n then 1 else 0) + 1
    by_cases e : i = n
    · subst e
      rw [dcN_up n (Int.le_refl _), upI_s, if_pos hx, if_neg (by omega)]
      omega
    · rw [ih (by omega), upI_n (fun h => e h.symm)]
      omega
def SOp (so : Int → Int) (n de : Int) : Prop := (∀ s, 0 ≤ s → s < n → so s < de) ∧ de = dc so n ∧ 0 ≤ n
section SOS
variable {so : Int → Int} {n de s : Int}
theorem SOp_le (H : SOp so n de) : 0 ≤ de ∧ de ≤ n := by
  obtain ⟨h1, h2, h3⟩ := H
  have := dcN_0 so n.toNat
  rw [h2]
  unfold dc
  omega
theorem SOp_lt (H : SOp so n de) (h0 : 0 ≤ s) (h1 : s < n) (h2 : so s < 0) : de + 1 ≤ n := by
  have := dcN_lt h0 h2 n.toNat (by omega)
  rw [H.2.1]
  unfold dc
  omega
theorem SOp_new (H : SOp so n de) : SOp (upI so n (-1)) (n + 1) de := by
  have hle := SOp_le H
  obtain ⟨h1, h2, h3⟩ := H
  refine ⟨fun s a b => ?_, ?_, by omega⟩
  · by_cases e : s = n
    · subst e
      rw [upI_s]
      omega
    · rw [upI_n e]
      exact h1 s a (by omega)
  · rw [dc_s _ h3, upI_s, if_neg (by decide)]
    unfold dc
    rw [dcN_up n.toNat (by omega), h2]
    unfold dc
    omega
theorem SOp_dec (H : SOp so n de) (h0 : 0 ≤ s) (hs : s < n) (hn : so s < 0) : SOp (upI so s de) n (de + 1) := by
  have hle := SOp_le H
  obtain ⟨h1, h2, h3⟩ := H
  refine ⟨fun q a b => ?_, ?_, h3⟩
  · by_cases e : q = s
    · subst e
      rw [upI_s]
      omega
    · rw [upI_n e]
      have := h1 q a b
      omega
  · unfold dc
    rw [dcN_set h0 hn hle.1 n.toNat (by omega)]
    show de + 1 = dc so n + 1
    omega
theorem SOp_nd (H : SOp so n de) : SOp (upI so n de) (n + 1) (de + 1) := by
  have hle := SOp_le H
  obtain ⟨h1, h2, h3⟩ := H
  refine ⟨fun q a b => ?_, ?_, by omega⟩
  · by_cases e : q = n
    · subst e
      rw [upI_s]
      omega
    · rw [upI_n e]
      have := h1 q a (by omega)
      omega
  · rw [dc_s _ h3, upI_s, if_pos hle.1]
    unfold dc
    rw [dcN_up n.toNat (by omega)]
    show de + 1 = dc so n + 1
    omega
end SOS
def StR (sg : Int → Int) (n st d : Int) (cs sf sto et ct : Int → Int) : Prop := (0 < cs d → okc sg (sf d) (sto d) ∧ sto d ≤ n) ∧ et d < st ∧ ∀ c, 8 * d ≤ c → c < 8 * d + cs d → ct c < st
def StP (sg : Int → Int) (n st de : Int) (cs sf sto et ct : Int → Int) : Prop := ∀ d, 0 ≤ d → d < de → StR sg n st d cs sf sto et ct
section STS
variable {sg sg' cs sf sto et ct cs' sf' sto' et' ct' : Int → Int} {n n' st st' de : Int}
theorem StP_f (H : StP sg n st de cs sf sto et ct) (hn : n ≤ n') (hs : st ≤ st') (g : agr sg sg' n) (a1 : agr cs cs' de) (a2 : agr sf sf' de) (a3 : agr sto sto' de) (a4 : agr et et' de) (a5 : agr ct ct' (8 * de)) (hc : ∀ j, 0 ≤ cs j ∧ cs j ≤ 8) : StP sg' n' st' de cs' sf' sto' et' ct' := by
  intro d d0 d1
  obtain ⟨h1, h2, h3⟩ := H d d0 d1
  unfold StR
  rw [a1 d d0 d1, a2 d d0 d1, a3 d d0 d1, a4 d d0 d1]
  refine ⟨fun h => ⟨okc_agr (h1 h).1 g (h1 h).2, ?_⟩, by omega, fun c c0 c1 => ?_⟩
  · have := (h1 h).2
    omega
  · have := hc d
    rw [a5 c (by omega) (by omega)]
    have := h3 c c0 c1
    omega
theorem StP_add (H : StP sg n st de cs sf sto et ct) (h : StR sg n st de cs sf sto et ct) : StP sg n st (de + 1) cs sf sto et ct := by
  intro d d0 d1
  by_cases e : d = de
  · subst e
    exact h
  · exact H d d0 (by omega)
end STS
