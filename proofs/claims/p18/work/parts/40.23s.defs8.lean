/-! ===== PRODUCTS, SUMS OF BUCKETS, RANKS OF STATES ===== -/
theorem mul_rg {x y u v B : Int} (hx : 0 ≤ x) (hx2 : x ≤ u) (hy : 0 ≤ y) (hy2 : y ≤ v) (h : u * v ≤ B) : 0 ≤ x * y ∧ x * y ≤ B := ⟨Int.mul_nonneg hx hy, Int.le_trans (Int.mul_le_mul hx2 hy2 hy (Int.le_trans hx hx2)) h⟩
def mnN (f : Int → Int) (W : Int) (n : Nat) : Int := match n with
  | 0 => 0
  | n + 1 => mnN f W n + (if f n < W then f n else W)
def mn (f : Int → Int) (W n : Int) : Int := mnN f W n.toNat
theorem mnN_z {f : Int → Int} {W : Int} (hW : 0 ≤ W) (n : Nat) (h : ∀ j : Int, 0 ≤ j → j < (n : Int) → f j = 0) : mnN f W n = 0 := by
  induction n with
  | zero => rfl
  | succ n ih =>
    have e : mnN f W (n + 1) = mnN f W n + (if f n < W then f n else W) := rfl
    rw [e, ih (fun j a b => h j a (by omega)), h n (by omega) (by omega)]
    split <;> omega
theorem mn_z {f : Int → Int} {W n : Int} (hW : 0 ≤ W) (h : ∀ j : Int, 0 ≤ j → j < n → f j = 0) : mn f W n = 0 := mnN_z hW n.toNat (fun j a b => h j a (by omega))
theorem mnN_le {f : Int → Int} {W : Int} (n : Nat) : mnN f W n ≤ n * W := by
  induction n with
  | zero => show (0 : Int) ≤ (0 : Nat) * W; simp
  | succ n ih =>
    have e : mnN f W (n + 1) = mnN f W n + (if f n < W then f n else W) := rfl
    have e2 : ((n + 1 : Nat) : Int) * W = n * W + W := by
      rw [Int.natCast_add, Int.add_mul]
      simp
    rw [e, e2]
    split <;> omega
theorem mn_le16 {f : Int → Int} {W : Int} : mn f W 16 ≤ 16 * W := mnN_le 16
theorem mnN_o {f : Int → Int} {W b x : Int} (n : Nat) (h : n ≤ b) : mnN (upI f b x) W n = mnN f W n := by
  induction n with
  | zero => rfl
  | succ n ih =>
    show mnN (upI f b x) W n + (if upI f b x n < W then upI f b x n else W) = mnN f W n + (if f n < W then f n else W)
    rw [ih (by omega), upI_n (show (n : Int) ≠ b by omega)]
theorem mnN_u {f : Int → Int} {W b : Int} (h0 : 0 ≤ b) (n : Nat) (h : b < n) : (f b < W → mnN (upI f b (f b + 1)) W n = mnN f W n + 1) ∧ (W ≤ f b → mnN (upI f b (f b + 1)) W n = mnN f W n) := by
  induction n with
  | zero => omega
  | succ n ih =>
    have e : mnN f W (n + 1) = mnN f W n + (if f n < W then f n else W) := rfl
    have e1 : mnN (upI f b (f b + 1)) W (n + 1) = mnN (upI f b (f b + 1)) W n + (if upI f b (f b + 1) n < W then upI f b (f b + 1) n else W) := rfl
    rw [e, e1]
    by_cases hb : (n : Int) = b
    · subst hb
      rw [mnN_o n (by omega), upI_s]
      constructor
      · intro h2
        rw [if_pos h2]
        split <;> omega
      · intro h2
        rw [if_neg (by omega), if_neg (by omega)]
    · rw [upI_n hb]
      have := ih (by omega)
      constructor
      · intro h2
        rw [this.1 h2]
        omega
      · intro h2
        rw [this.2 h2]
theorem mn_u {f : Int → Int} {W b : Int} (h0 : 0 ≤ b) (h : b < 16) : (f b < W → mn (upI f b (f b + 1)) W 16 = mn f W 16 + 1) ∧ (W ≤ f b → mn (upI f b (f b + 1)) W 16 = mn f W 16) := mnN_u h0 16 h
def EMp (tb : Int) (mm ex rm : Int → Int) : Prop := ∀ t, 0 ≤ t → t < tb → mm t ≤ 72 ∧ (ex t = 0 → mm t ≤ rm t)
theorem EMp_up {tb t x : Int} {mm ex rm : Int → Int} (H : EMp tb mm ex rm) (h1 : x ≤ 72) (h2 : ex t = 0 → x ≤ rm t) : EMp tb (upI mm t x) ex rm := by
  intro u a b
  by_cases e : u = t
  · subst e
    rw [upI_s]
    exact ⟨h1, h2⟩
  · rw [upI_n e]
    exact H u a b
def EAp (ac : Int) (mm ea : Int → Int) : Prop := ∀ t e, 0 ≤ t → t < 8 → 0 ≤ e → e < mm t → e < 96 → ea (96 * t + e) < ac
theorem EAp_put {ac t e a : Int} {mm ea : Int → Int} (H : EAp ac mm ea) (h : a < ac) : EAp ac mm (upI ea (96 * t + e) a) := by
  intro u v a1 a2 a3 a4 a5
  unfold upI
  split
  · exact h
  · exact H u v a1 a2 a3 a4 a5
theorem EAp_add {ac t a : Int} {mm ea : Int → Int} (H : EAp ac mm ea) (h : a < ac) : EAp ac (upI mm t (mm t + 1)) (upI ea (96 * t + mm t) a) := by
  intro u v a1 a2 a3 a4 a5
  unfold upI
  split
  · exact h
  · next h2 =>
    by_cases e : u = t
    · subst e
      rw [upI_s] at a4
      exact H u v a1 a2 a3 (by omega) a5
    · rw [upI_n e] at a4
      exact H u v a1 a2 a3 a4 a5
theorem EAp_many {ac t x : Int} {mm ea : Int → Int} (H : EAp ac mm ea) (h : x ≤ mm t) : EAp ac (upI mm t x) ea := by
  intro u v a1 a2 a3 a4 a5
  by_cases e : u = t
  · subst e
    rw [upI_s] at a4
    exact H u v a1 a2 a3 (by omega) a5
  · rw [upI_n e] at a4
    exact H u v a1 a2 a3 a4 a5
theorem EMp_up2 {tb t x y : Int} {mm ex rm : Int → Int} (H : EMp tb mm ex rm) (h1 : x ≤ 72) (h2 : ex t = 0 → x ≤ rm t) : EMp tb (upI (upI mm t y) t x) ex rm := by
  intro u a b
  by_cases e : u = t
  · subst e
    rw [upI_s]
    exact ⟨h1, h2⟩
  · rw [upI_n e, upI_n e]
    exact H u a b
theorem EAp_sl {ac t e s : Int} {mm ea : Int → Int} (hs : s = 96 * t + e) (H : EAp ac mm ea) (h : ea (96 * t + (e + 1)) < ac) : EAp ac mm (upI ea s (ea (s + 1))) := by
  subst hs
  refine EAp_put H ?_
  rw [show 96 * t + e + 1 = 96 * t + (e + 1) by omega]
  exact h
