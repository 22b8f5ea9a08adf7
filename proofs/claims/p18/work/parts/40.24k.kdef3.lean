/-! ===== SUMS OVER ROWS: states that stand, bits of headers ===== -/
theorem sfN_c {g f f' : Int → Int} (n : Nat) (h : ∀ i : Int, 0 ≤ i → i < n → f' i = f i) : sfN g f' n = sfN g f n := by
  induction n with
  | zero => rfl
  | succ n ih =>
    show sfN g f' n + g (f' n) = sfN g f n + g (f n)
    rw [ih (fun i a b => h i a (by omega)), h n (by omega) (by omega)]
theorem sf_c {g f f' : Int → Int} {n : Int} (h : ∀ i : Int, 0 ≤ i → i < n → f' i = f i) : sf g f' n = sf g f n := sfN_c n.toNat (fun i a b => h i a (by omega))
theorem sfN_m {g f : Int → Int} {k x : Int} (n : Nat) (h0 : 0 ≤ k) (h1 : k < n) : sfN g (upI f k x) n = sfN g f n - g (f k) + g x := by
  induction n with
  | zero => omega
  | succ n ih =>
    have e1 : sfN g (upI f k x) (n + 1) = sfN g (upI f k x) n + g (upI f k x n) := rfl
    have e2 : sfN g f (n + 1) = sfN g f n + g (f n) := rfl
    rw [e1, e2]
    by_cases e : k = n
    · rw [sfN_o n (by omega), e, upI_s]
      omega
    · rw [ih (by omega), upI_n (show (n : Int) ≠ k by omega)]
      omega
theorem sf_m {g f : Int → Int} {k x n : Int} (h0 : 0 ≤ k) (h1 : k < n) : sf g (upI f k x) n = sf g f n - g (f k) + g x := sfN_m n.toNat h0 (by omega)
def nz (x : Int) : Int := if x = -1 then 0 else 1
theorem nz_b (x : Int) : 0 ≤ nz x ∧ nz x ≤ 1 := by
  unfold nz
  split <;> omega
theorem nz_0 {x : Int} (h : x = -1) : nz x = 0 := if_pos h
theorem nz_1 {x : Int} (h : x ≠ -1) : nz x = 1 := if_neg h
theorem nzN (f : Int → Int) (n : Nat) : 0 ≤ sfN nz f n ∧ sfN nz f n ≤ n := by
  induction n with
  | zero => exact ⟨Int.le_refl _, Int.le_refl _⟩
  | succ n ih =>
    have e : sfN nz f (n + 1) = sfN nz f n + nz (f n) := rfl
    have := nz_b (f n)
    omega
def SSp (s : Int) (f : Int → Int) (n : Int) : Prop := s = sf nz f n
theorem SS_add {s n n' : Int} {f f' : Int → Int} (H : SSp s f n) (h : 0 ≤ n) (hf : f' = upI f n (-1)) (hn : n' = n + 1) : SSp s f' n' := by
  subst hf hn
  show s = _
  rw [sf_push _ _ h, H, nz_0 rfl]
  omega
theorem SS_st {s n k x s' : Int} {f f' : Int → Int} (H : SSp s f n) (h0 : 0 ≤ k) (h1 : k < n) (h : f k = -1) (hx : x ≠ -1) (hf : f' = upI f k x) (hs : s' = s + 1) : SSp s' f' n := by
  subst hf hs
  show _ = _
  rw [sf_m h0 h1, H, nz_0 h, nz_1 hx]
  omega
theorem SS_b {s n k : Int} {f : Int → Int} (H : SSp s f n) (h0 : 0 ≤ k) (h1 : k < n) (h : f k = -1) : s + 1 ≤ n := by
  have a := SS_st (x := 0) H h0 h1 h (by omega) rfl rfl
  have b := nzN (upI f k 0) n.toNat
  have c : s + 1 = sfN nz (upI f k 0) n.toNat := a
  omega
theorem SS_0 (f : Int → Int) : SSp 0 f 0 := rfl
def hb (fw : Int → Int) (h n : Int) : Int := sf (fun x => x) (fun i => fw (h * 16 + i)) n
theorem hb_0 (fw : Int → Int) (h : Int) : hb fw h 0 = 0 := rfl
theorem hb_s (fw : Int → Int) (h : Int) {n : Int} (h0 : 0 ≤ n) : hb fw h (n + 1) = hb fw h n + fw (h * 16 + n) := sf_s _ _ h0
def HBp (n : Int) (fw : Int → Int) : Prop := ∀ h, 0 ≤ h → h < n → hb fw h 16 ≤ 512
theorem HB_fl {n k i x : Int} {fw : Int → Int} (H : HBp n fw) (hn : n ≤ k) (h0 : 0 ≤ i) : HBp n (upI fw (k * 16 + i) x) := by
  intro h a b
  have e : hb (upI fw (k * 16 + i) x) h 16 = hb fw h 16 := sf_c (fun j c d => upI_n (by omega))
  rw [e]
  exact H h a b
theorem HB_new {n n' : Int} {fw : Int → Int} (H : HBp n fw) (h : hb fw n 16 ≤ 512) (hn : n' = n + 1) : HBp n' fw := by
  intro k a b
  by_cases e : k = n
  · rw [e]
    exact h
  · exact H k a (by omega)
theorem HB_0 (fw : Int → Int) : HBp 0 fw := fun h a b => absurd b (by omega)
def IHp (n : Int) (ih : Int → Int) (hd : Int) : Prop := ∀ i, 0 ≤ i → i < n → ih i < hd
theorem IH_up {n hd hd' : Int} {ih : Int → Int} (H : IHp n ih hd) (h : hd ≤ hd') : IHp n ih hd' := fun i a b => by
  have := H i a b
  omega
theorem IH_new {n n' hd x : Int} {ih ih' : Int → Int} (H : IHp n ih hd) (h : x < hd) (hf : ih' = upI ih n x) (hn : n' = n + 1) : IHp n' ih' hd := by
  subst hf hn
  intro i a b
  by_cases e : i = n
  · subst e
    rw [upI_s]
    exact h
  · rw [upI_n e]
    exact H i a (by omega)
theorem up_at {f f' : Int → Int} {n k x : Int} (h : f' = upI f n x) (e : k = n) : f' k = x := by
  subst h e
  exact upI_s
