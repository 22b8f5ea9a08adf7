/-! ===== NUMBERS THAT DIFFER; WHAT TABLES LIST ===== -/
def DSp (n : Int) (f : Int → Int) : Prop := ∀ i j, 0 ≤ i → i < j → j < n → f i ≠ f j
theorem DS_s {n x : Int} {f : Int → Int} (H : DSp n f) (h : ∀ j, 0 ≤ j → j < n → f j ≠ x) : DSp (n + 1) (upI f n x) := by
  intro i j a b c
  rw [upI_n (show i ≠ n by omega)]
  by_cases e : j = n
  · rw [e, upI_s]
    exact h i a (by omega)
  · rw [upI_n e]
    exact H i j a b (by omega)
theorem pig (m : Nat) : ∀ (n : Int) (f : Int → Int), DSp n f → (∀ i, 0 ≤ i → i < n → 0 ≤ f i ∧ f i < m) → 0 ≤ n → n ≤ m := by
  induction m with
  | zero =>
    intro n f _ h h0
    by_cases e : n = 0
    · omega
    · have := h 0 (by omega) (by omega)
      omega
  | succ m ih =>
    intro n f H h h0
    by_cases e : ∃ j, 0 ≤ j ∧ j < n ∧ f j = m
    · obtain ⟨j, j0, j1, j2⟩ := e
      have k := ih (n - 1) (fun i => if i = j then f (n - 1) else f i) ?_ ?_ (by omega)
      · omega
      · intro a b a0 ab bn
        show (if a = j then f (n - 1) else f a) ≠ (if b = j then f (n - 1) else f b)
        by_cases ea : a = j
        · rw [if_pos ea, if_neg (by omega)]
          exact fun q => H b (n - 1) (by omega) (by omega) (by omega) q.symm
        · rw [if_neg ea]
          by_cases eb : b = j
          · rw [if_pos eb]
            exact H a (n - 1) a0 (by omega) (by omega)
          · rw [if_neg eb]
            exact H a b a0 ab (by omega)
      · intro i i0 i1
        show 0 ≤ (if i = j then f (n - 1) else f i) ∧ (if i = j then f (n - 1) else f i) < m
        by_cases ei : i = j
        · rw [if_pos ei]
          have q := h (n - 1) (by omega) (by omega)
          have q2 := H j (n - 1) j0 (by omega) (by omega)
          rw [j2] at q2
          omega
        · rw [if_neg ei]
          have q := h i i0 (by omega)
          have q2 : f i ≠ f j := by
            by_cases l : i < j
            · exact H i j i0 l j1
            · exact fun q => H j i j0 (by omega) (by omega) q.symm
          rw [j2] at q2
          omega
    · have k := ih n f H (fun i i0 i1 => by
        have q := h i i0 i1
        have q2 : f i ≠ m := fun q => e ⟨i, i0, i1, q⟩
        omega) h0
      omega
theorem pig12 {n x : Int} {f : Int → Int} (H : DSp n f) (h0 : 0 ≤ n) (h : ∀ j, 0 ≤ j → j < n → f j ≠ x) (hx : 0 ≤ x ∧ x ≤ 11) (hf : ∀ i, 0 ≤ f i ∧ f i ≤ 11) : n ≤ 11 := by
  have := pig 12 (n + 1) (upI f n x) (DS_s H h) (fun i a b => by
    by_cases e : i = n
    · rw [e, upI_s]
      omega
    · rw [upI_n e]
      have := hf i
      omega) (by omega)
  omega
def LTp (n : Int) (f : Int → Int) (b : Int) : Prop := ∀ i, 0 ≤ i → i < n → f i < b
theorem LT_s {n x b n' : Int} {f : Int → Int} (H : LTp n f b) (h : x < b) (hn : n' = n + 1) : LTp n' (upI f n x) b := by
  intro i a c
  by_cases e : i = n
  · rw [e, upI_s]
    exact h
  · rw [upI_n e]
    exact H i a (by omega)
theorem LT_0 {f : Int → Int} {b : Int} : LTp 0 f b := fun i a c => absurd c (by omega)
theorem LT_u {n b b' : Int} {f : Int → Int} (H : LTp n f b) (h : b ≤ b') : LTp n f b' := fun i a c => by
  have := H i a c
  omega
def TLp (n : Int) (ct ls : Int → Int) (b : Int) : Prop := ∀ u, 0 ≤ u → u < n → ∀ i, 0 ≤ i → i < ct u → ls (65536 * u + i) < b
theorem TL_cl {n n' b : Int} {ct ct' ls : Int → Int} (H : TLp n ct ls b) (hc : ct' = upI ct n 0) (hn : n' = n + 1) : TLp n' ct' ls b := by
  subst hc hn
  intro u a c i i0 i1
  by_cases e : u = n
  · rw [e, upI_s] at i1
    omega
  · rw [upI_n e] at i1
    exact H u a (by omega) i i0 i1
theorem TL_ad {n t k b x k' : Int} {ct ls : Int → Int} (H : TLp n ct ls b) (ht : 0 ≤ t) (hk : ct t = k) (h0 : 0 ≤ k) (h1 : k ≤ 7) (hc : ∀ u, ct u ≤ 8) (hx : x < b) (e' : k' = k + 1) : TLp n (upI ct t k') (upI ls (65536 * t + k) x) b := by
  subst e'
  intro u a c i i0 i1
  by_cases e : u = t
  · subst e
    rw [upI_s] at i1
    by_cases e2 : i = k
    · rw [e2, upI_s]
      exact hx
    · rw [upI_n (by omega)]
      exact H u a c i i0 (by omega)
  · rw [upI_n e] at i1
    have := hc u
    rw [upI_n (by omega)]
    exact H u a c i i0 i1
