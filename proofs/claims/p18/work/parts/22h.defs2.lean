/-! ===== WHAT HOLDS of the program's tables ===== -/
/-- the sum of n cells from a on -/
def smN (f : Int → Int) (a : Int) (n : Nat) : Int := match n with
  | 0 => 0
  | n + 1 => smN f a n + f (a + n)
def sm (f : Int → Int) (a n : Int) : Int := smN f a n.toNat
theorem sm_0 (f : Int → Int) (a : Int) : sm f a 0 = 0 := rfl
theorem sm_s (f : Int → Int) (a n : Int) (h : 0 ≤ n) : sm f a (n + 1) = sm f a n + f (a + n) := by
  obtain ⟨k, rfl⟩ := Int.eq_ofNat_of_zero_le h
  rfl
theorem smN_up (f : Int → Int) (a i x : Int) (n : Nat) (h : i < a ∨ a + n ≤ i) : smN (upI f i x) a n = smN f a n := by
  induction n with
  | zero => rfl
  | succ n ih =>
    show smN (upI f i x) a n + upI f i x (a + n) = smN f a n + f (a + n)
    rw [ih (by omega), upI_n (by omega)]
theorem sm_up (f : Int → Int) (a i x n : Int) (hn : 0 ≤ n) (h : i < a ∨ a + n ≤ i) : sm (upI f i x) a n = sm f a n := smN_up f a i x n.toNat (by omega)
theorem smN_le (f : Int → Int) (a hi : Int) (n : Nat) (h : ∀ j, 0 ≤ f j ∧ f j ≤ hi) : 0 ≤ smN f a n ∧ smN f a n ≤ hi * n := by
  induction n with
  | zero => exact ⟨Int.le_refl _, by show (0 : Int) ≤ hi * 0; omega⟩
  | succ n ih =>
    have := h (a + n)
    have e : smN f a (n + 1) = smN f a n + f (a + n) := rfl
    have e2 : hi * ((n + 1 : Nat) : Int) = hi * n + hi := by
      rw [Int.natCast_add, Int.mul_add]
      simp
    rw [e, e2]
    omega
/-- a header's bits are the sum of its fields' -/
def HBi (hf hb fb : Int → Int) : Prop := ∀ h, 0 ≤ h → h < 12 → hb h = sm fb (16 * h) (hf h)
theorem HBi_put {hf hb fb : Int → Int} {h x : Int} (H : HBi hf hb fb) (hr : ∀ j, 0 ≤ hf j ∧ hf j ≤ 16) (h0 : 0 ≤ h) (h1 : h < 12) (h2 : hf h < 16) : HBi (upI hf h (hf h + 1)) (upI hb h (hb h + x)) (upI fb (16 * h + hf h) x) := by
  intro g g0 g1
  have hg := hr g
  have hh := hr h
  by_cases e : g = h
  · subst e
    rw [upI_s, upI_s, sm_s _ _ _ hg.1, sm_up _ _ _ _ _ hg.1 (by omega), upI_s, H g g0 g1]
  · rw [upI_n e, upI_n e, sm_up _ _ _ _ _ hg.1 (by omega), H g g0 g1]
theorem HBi_fb {hf hb fb : Int → Int} {h x : Int} (H : HBi hf hb fb) (hr : ∀ j, 0 ≤ hf j ∧ hf j ≤ 16) (h0 : 0 ≤ h) (h1 : h < 12) : HBi hf hb (upI fb (16 * h + hf h) x) ∨ hf h = 16 := by
  by_cases h2 : hf h = 16
  · exact Or.inr h2
  · refine Or.inl (fun g g0 g1 => ?_)
    have hg := hr g
    have hh := hr h
    rw [sm_up _ _ _ _ _ hg.1 (by by_cases e : g = h; (subst e; omega); omega), H g g0 g1]
theorem HBi_new {hf hb fb : Int → Int} {h : Int} (H : HBi hf hb fb) : HBi (upI hf h 0) (upI hb h 0) fb := by
  intro g g0 g1
  by_cases e : g = h
  · subst e
    rw [upI_s, upI_s]
    rfl
  · rw [upI_n e, upI_n e, H g g0 g1]
theorem HBi_le {hf hb fb : Int → Int} {h : Int} (H : HBi hf hb fb) (hr : ∀ j, 0 ≤ hf j ∧ hf j ≤ 16) (hb' : ∀ j, 0 ≤ fb j ∧ fb j ≤ 64) (h0 : 0 ≤ h) (h1 : h < 12) : 0 ≤ hb h ∧ hb h ≤ 64 * hf h := by
  rw [H h h0 h1]
  have := smN_le fb (16 * h) 64 (hf h).toNat hb'
  have h2 := hr h
  unfold sm
  omega
