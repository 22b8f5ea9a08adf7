/-! ===== EXPRS: how high the pile stands, and what stands open ===== -/
def ar (s : Int) : Int := if s = 400 ∨ s = 401 ∨ s = 402 ∨ s = 403 ∨ s = 404 then 0 else if s = 405 ∨ s = 406 ∨ s = 408 ∨ s = 126 ∨ s = 33 then 1 else if s = 407 then 3 else 2
theorem ar_2 {s : Int} (h : s ≤ 399) : ar s ≤ 2 := by
  unfold ar
  split
  · omega
  · split
    · omega
    · split
      · omega
      · omega
theorem ar_0 {s : Int} (h : s = 400 ∨ s = 401 ∨ s = 402 ∨ s = 403 ∨ s = 404) : ar s = 0 := if_pos h
theorem ar_1 {s : Int} (h : s = 126 ∨ s = 33 ∨ s = 408) : ar s = 1 := by
  rcases h with rfl | rfl | rfl <;> decide
def hgN (sg : Int → Int) (a : Int) (n : Nat) : Int := match n with
  | 0 => 0
  | n + 1 => hgN sg a n + 1 - ar (sg (a + n))
def hg (sg : Int → Int) (a n : Int) : Int := hgN sg a n.toNat
theorem hg_s (sg : Int → Int) (a n : Int) (h : 0 ≤ n) : hg sg a (n + 1) = hg sg a n + 1 - ar (sg (a + n)) := by
  obtain ⟨k, rfl⟩ := Int.eq_ofNat_of_zero_le h
  rfl
theorem hgN_ext {sg sg' : Int → Int} (a : Int) (n : Nat) (h : ∀ j, a ≤ j → j < a + n → sg' j = sg j) : hgN sg' a n = hgN sg a n := by
  induction n with
  | zero => rfl
  | succ n ih =>
    show hgN sg' a n + 1 - ar (sg' (a + n)) = hgN sg a n + 1 - ar (sg (a + n))
    rw [ih (fun j h1 h2 => h j h1 (by omega)), h (a + n) (by omega) (by omega)]
theorem hg_ext {sg sg' : Int → Int} (a n : Int) (hn : 0 ≤ n) (h : ∀ j, a ≤ j → j < a + n → sg' j = sg j) : hg sg' a n = hg sg a n := hgN_ext a n.toNat (fun j h1 h2 => h j h1 (by omega))
def okc (sg : Int → Int) (a b : Int) : Prop := 0 ≤ a ∧ a ≤ b ∧ ∀ j, a ≤ j → j < b → ar (sg j) ≤ hg sg a (j - a)
def agr (f g : Int → Int) (n : Int) : Prop := ∀ j, 0 ≤ j → j < n → g j = f j
theorem agr_r (f : Int → Int) (n : Int) : agr f f n := fun _ _ _ => rfl
theorem agr_t {f g h : Int → Int} {n k : Int} (a : agr f g n) (b : agr g h k) (hk : n ≤ k) : agr f h n := fun j h0 h1 => (b j h0 (by omega)).trans (a j h0 h1)
theorem agr_u {f : Int → Int} {n i x : Int} (h : n ≤ i) : agr f (upI f i x) n := fun j _ h1 => upI_n (by omega)
theorem okc_agr {sg sg' : Int → Int} {a b n : Int} (h : okc sg a b) (g : agr sg sg' n) (hb : b ≤ n) : okc sg' a b := by
  obtain ⟨h0, h1, h2⟩ := h
  refine ⟨h0, h1, fun j j0 j1 => ?_⟩
  rw [g j (by omega) (by omega), hg_ext a (j - a) (by omega) (fun q q0 q1 => g q (by omega) (by omega))]
  exact h2 j j0 j1
def CNk (s x : Int) : Prop := (s = 402 → x < 16) ∧ (s = 403 → x < 4) ∧ (s = 404 → x < 12) ∧ (s = 405 → x < 64)
def CN (sg nu : Int → Int) (n : Int) : Prop := ∀ k, 0 ≤ k → k < n → CNk (sg k) (nu k)
theorem CN_up {sg nu : Int → Int} {n s x : Int} (h : CN sg nu n) (hk : CNk s x) : CN (upI sg n s) (upI nu n x) (n + 1) := by
  intro k h0 h1
  by_cases e : k = n
  · subst e
    rw [upI_s, upI_s]
    exact hk
  · rw [upI_n e, upI_n e]
    exact h k h0 (by omega)
def EX (sg nu : Int → Int) (B n h : Int) : Prop := okc sg B n ∧ h ≤ hg sg B (n - B) ∧ CN sg nu n
theorem EX_w {sg nu : Int → Int} {B n h h' : Int} (H : EX sg nu B n h) (hh : h' ≤ h) : EX sg nu B n h' := ⟨H.1, Int.le_trans hh H.2.1, H.2.2⟩
theorem EX_put {sg nu : Int → Int} {B n h a x : Int} (H : EX sg nu B n h) (ha : ar a ≤ h) (hx : CNk a x) : EX (upI sg n a) (upI nu n x) B (n + 1) (h + 1 - ar a) := by
  obtain ⟨⟨h0, h1, h2⟩, h3, h4⟩ := H
  have e : ∀ k, 0 ≤ k → B + k ≤ n → hg (upI sg n a) B k = hg sg B k := fun k k0 k1 => hg_ext B k k0 (fun j _ j1 => upI_n (by omega))
  refine ⟨⟨h0, by omega, fun j j0 j1 => ?_⟩, ?_, CN_up h4 hx⟩
  · rw [e (j - B) (by omega) (by omega)]
    by_cases ej : j = n
    · subst ej
      rw [upI_s]
      omega
    · rw [upI_n ej]
      exact h2 j j0 (by omega)
  · have e2 : n + 1 - B = (n - B) + 1 := by omega
    rw [e2, hg_s _ _ _ (by omega), e (n - B) (by omega) (by omega)]
    have e3 : B + (n - B) = n := by omega
    rw [e3, upI_s]
    omega
theorem EX_new {sg nu : Int → Int} {n : Int} (h0 : 0 ≤ n) (h : CN sg nu n) : EX sg nu n n 0 := by
  refine ⟨⟨h0, Int.le_refl _, fun j j0 j1 => ?_⟩, ?_, h⟩
  · omega
  · rw [Int.sub_self]
    exact Int.le_refl _
/-- how many wait -/
def cn1 (ws : Int → Int) (i : Int) : Int := if 0 ≤ ws i then 1 else 0
theorem cn1_0 (ws : Int → Int) (i : Int) : 0 ≤ cn1 ws i := by
  unfold cn1
  split <;> omega
theorem cn1_up (ws : Int → Int) (i x k : Int) : cn1 (upI ws i x) k = if k = i then (if 0 ≤ x then 1 else 0) else cn1 ws k := by
  unfold cn1 upI
  by_cases h : k = i
  · rw [if_pos h, if_pos h]
  · rw [if_neg h, if_neg h]
def cnt (ws : Int → Int) (j : Int) : Int := cn1 ws (9 * j) + cn1 ws (9 * j + 1) + cn1 ws (9 * j + 2) + cn1 ws (9 * j + 3) + cn1 ws (9 * j + 4) + cn1 ws (9 * j + 5) + cn1 ws (9 * j + 6) + cn1 ws (9 * j + 7) + cn1 ws (9 * j + 8)
theorem cnt_0 (ws : Int → Int) (j : Int) : 0 ≤ cnt ws j := by
  have h0 := cn1_0 ws (9 * j)
  have h1 := cn1_0 ws (9 * j + 1)
  have h2 := cn1_0 ws (9 * j + 2)
  have h3 := cn1_0 ws (9 * j + 3)
  have h4 := cn1_0 ws (9 * j + 4)
  have h5 := cn1_0 ws (9 * j + 5)
  have h6 := cn1_0 ws (9 * j + 6)
  have h7 := cn1_0 ws (9 * j + 7)
  have h8 := cn1_0 ws (9 * j + 8)
  unfold cnt
  omega
theorem cnt_up {ws : Int → Int} {j i x : Int} (h0 : 9 * j ≤ i) (h1 : i < 9 * j + 9) : cnt (upI ws i x) j = cnt ws j - cn1 ws i + (if 0 ≤ x then 1 else 0) := by
  unfold cnt
  simp only [cn1_up]
  have hc : i = 9 * j ∨ i = 9 * j + 1 ∨ i = 9 * j + 2 ∨ i = 9 * j + 3 ∨ i = 9 * j + 4 ∨ i = 9 * j + 5 ∨ i = 9 * j + 6 ∨ i = 9 * j + 7 ∨ i = 9 * j + 8 := by omega
  generalize (if 0 ≤ x then (1 : Int) else 0) = X
  rcases hc with h | h | h | h | h | h | h | h | h
  · rw [if_pos (by omega), if_neg (by omega), if_neg (by omega), if_neg (by omega), if_neg (by omega), if_neg (by omega), if_neg (by omega), if_neg (by omega), if_neg (by omega), h]
    omega
  · rw [if_neg (by omega), if_pos (by omega), if_neg (by omega), if_neg (by omega), if_neg (by omega), if_neg (by omega), if_neg (by omega), if_neg (by omega), if_neg (by omega), h]
    omega
  · rw [if_neg (by omega), if_neg (by omega), if_pos (by omega), if_neg (by omega), if_neg (by omega), if_neg (by omega), if_neg (by omega), if_neg (by omega), if_neg (by omega), h]
    omega
  · rw [if_neg (by omega), if_neg (by omega), if_neg (by omega), if_pos (by omega), if_neg (by omega), if_neg (by omega), if_neg (by omega), if_neg (by omega), if_neg (by omega), h]
    omega
  · rw [if_neg (by omega), if_neg (by omega), if_neg (by omega), if_neg (by omega), if_pos (by omega), if_neg (by omega), if_neg (by omega), if_neg (by omega), if_neg (by omega), h]
    omega
  · rw [if_neg (by omega), if_neg (by omega), if_neg (by omega), if_neg (by omega), if_neg (by omega), if_pos (by omega), if_neg (by omega), if_neg (by omega), if_neg (by omega), h]
    omega
  · rw [if_neg (by omega), if_neg (by omega), if_neg (by omega), if_neg (by omega), if_neg (by omega), if_neg (by omega), if_pos (by omega), if_neg (by omega), if_neg (by omega), h]
    omega
  · rw [if_neg (by omega), if_neg (by omega), if_neg (by omega), if_neg (by omega), if_neg (by omega), if_neg (by omega), if_neg (by omega), if_pos (by omega), if_neg (by omega), h]
    omega
  · rw [if_neg (by omega), if_neg (by omega), if_neg (by omega), if_neg (by omega), if_neg (by omega), if_neg (by omega), if_neg (by omega), if_neg (by omega), if_pos (by omega), h]
    omega
theorem cn1_e {ws ws' : Int → Int} {i : Int} (h : ws' i = ws i) : cn1 ws' i = cn1 ws i := by
  unfold cn1
  rw [h]
theorem cnt_e {ws ws' : Int → Int} {j : Int} (h : ∀ i, 9 * j ≤ i → i < 9 * j + 9 → ws' i = ws i) : cnt ws' j = cnt ws j := by
  unfold cnt
  rw [cn1_e (h (9 * j) (by omega) (by omega)), cn1_e (h (9 * j + 1) (by omega) (by omega)), cn1_e (h (9 * j + 2) (by omega) (by omega)), cn1_e (h (9 * j + 3) (by omega) (by omega)), cn1_e (h (9 * j + 4) (by omega) (by omega)), cn1_e (h (9 * j + 5) (by omega) (by omega)), cn1_e (h (9 * j + 6) (by omega) (by omega)), cn1_e (h (9 * j + 7) (by omega) (by omega)), cn1_e (h (9 * j + 8) (by omega) (by omega))]
theorem cnt_n {ws : Int → Int} {j : Int} (h : ∀ i, 9 * j ≤ i → i < 9 * j + 9 → ws i = -1) : cnt ws j = 0 := by
  have e : ∀ i, 9 * j ≤ i → i < 9 * j + 9 → cn1 ws i = 0 := fun i h0 h1 => by
    unfold cn1
    rw [h i h0 h1]
    rfl
  unfold cnt
  rw [e (9 * j) (by omega) (by omega), e (9 * j + 1) (by omega) (by omega), e (9 * j + 2) (by omega) (by omega), e (9 * j + 3) (by omega) (by omega), e (9 * j + 4) (by omega) (by omega), e (9 * j + 5) (by omega) (by omega), e (9 * j + 6) (by omega) (by omega), e (9 * j + 7) (by omega) (by omega), e (9 * j + 8) (by omega) (by omega)]
  rfl
def lhN (st ws : Int → Int) (n : Nat) : Int := match n with
  | 0 => 0
  | n + 1 => lhN st ws n + st n + cnt ws n
def lh (st ws : Int → Int) (n : Int) : Int := lhN st ws n.toNat
theorem lh_s (st ws : Int → Int) {n : Int} (h : 1 ≤ n) : lh st ws n = lh st ws (n - 1) + st (n - 1) + cnt ws (n - 1) := by
  obtain ⟨k, hk⟩ := Int.eq_ofNat_of_zero_le (show 0 ≤ n - 1 by omega)
  have e : n = ((k + 1 : Nat) : Int) := by omega
  subst e
  have e2 : ((k + 1 : Nat) : Int) - 1 = (k : Int) := by omega
  rw [e2]
  rfl
theorem lhN_e {st ws st' ws' : Int → Int} (n : Nat) (h1 : ∀ j : Int, 0 ≤ j → j < (n : Int) → st' j = st j) (h2 : ∀ i, i < 9 * (n : Int) → ws' i = ws i) : lhN st' ws' n = lhN st ws n := by
  induction n with
  | zero => rfl
  | succ n ih =>
    show lhN st' ws' n + st' n + cnt ws' n = lhN st ws n + st n + cnt ws n
    rw [ih (fun j a b => h1 j a (by omega)) (fun i a => h2 i (by omega)), h1 n (by omega) (by omega), cnt_e (fun i _ b => h2 i (by omega))]
theorem lh_e {st ws st' ws' : Int → Int} {n : Int} (hn : 0 ≤ n) (h1 : ∀ j, 0 ≤ j → j < n → st' j = st j) (h2 : ∀ i, i < 9 * n → ws' i = ws i) : lh st' ws' n = lh st ws n := lhN_e n.toNat (fun j a b => h1 j a (by omega)) (fun i a => h2 i (by omega))
def dpN (kd : Int → Int) (n : Nat) : Int := match n with
  | 0 => 0
  | n + 1 => dpN kd n + (if kd n = 2 then 0 else 1)
def dp (kd : Int → Int) (n : Int) : Int := dpN kd n.toNat
theorem dp_s (kd : Int → Int) {n : Int} (h : 1 ≤ n) : dp kd n = dp kd (n - 1) + (if kd (n - 1) = 2 then 0 else 1) := by
  obtain ⟨k, hk⟩ := Int.eq_ofNat_of_zero_le (show 0 ≤ n - 1 by omega)
  have e : n = ((k + 1 : Nat) : Int) := by omega
  subst e
  have e2 : ((k + 1 : Nat) : Int) - 1 = (k : Int) := by omega
  rw [e2]
  rfl
theorem dpN_e {kd kd' : Int → Int} (n : Nat) (h : ∀ j : Int, 0 ≤ j → j < (n : Int) → kd' j = kd j) : dpN kd' n = dpN kd n := by
  induction n with
  | zero => rfl
  | succ n ih =>
    show dpN kd' n + (if kd' n = 2 then 0 else 1) = dpN kd n + (if kd n = 2 then 0 else 1)
    rw [ih (fun j a b => h j a (by omega)), h n (by omega) (by omega)]
theorem dp_e {kd kd' : Int → Int} {n : Int} (hn : 0 ≤ n) (h : ∀ j, 0 ≤ j → j < n → kd' j = kd j) : dp kd' n = dp kd n := dpN_e n.toNat (fun j a b => h j a (by omega))
def OSp (a b s : Int) : Prop := (a = 2 → b = 0) ∧ (b = 0 → a ≠ 1) ∧ (a = 0 → b = 0 → s = 2)
def OS (kd os st : Int → Int) (hi de : Int) : Prop := 0 ≤ hi ∧ (0 < hi → kd 0 = 0) ∧ (∀ j, 0 ≤ j → j < hi → kd j = 1 → os j = 33 ∨ os j = 45 ∨ os j = 126) ∧ (∀ j, 0 ≤ j → j + 1 < hi → OSp (kd j) (kd (j + 1)) (st j)) ∧ de = dp kd hi
theorem OS_N {kd os st : Int → Int} {hi de : Int} (H : OS kd os st hi de) (n : Nat) (h0 : (n : Int) + 1 ≤ hi) : (kd n ≠ 2 → (n : Int) + 1 ≤ 2 * dpN kd (n + 1) - 1) ∧ (kd n = 2 → (n : Int) + 1 ≤ 2 * dpN kd (n + 1)) := by
  induction n with
  | zero =>
    have e : kd ((0 : Nat) : Int) = 0 := H.2.1 (by omega)
    have e2 : dpN kd (0 + 1) = 0 + (if kd ((0 : Nat) : Int) = 2 then 0 else 1) := rfl
    rw [e2, e]
    exact ⟨fun _ => by decide, fun h => by omega⟩
  | succ n ih =>
    have h1 := ih (by omega)
    have h2 := (H.2.2.2.1 n (by omega) (by omega)).1
    have e2 : dpN kd (n + 1 + 1) = dpN kd (n + 1) + (if kd ((n + 1 : Nat) : Int) = 2 then 0 else 1) := rfl
    have e3 : ((n + 1 : Nat) : Int) = (n : Int) + 1 := by omega
    rw [e2, e3]
    by_cases a : kd n = 2
    · have b := h2 a
      have h3 := h1.2 a
      rw [b, if_neg (by omega)]
      exact ⟨fun _ => by omega, fun h => by omega⟩
    · have h3 := h1.1 a
      by_cases b : kd ((n : Int) + 1) = 2
      · rw [if_pos b]
        exact ⟨fun h => absurd b h, fun _ => by omega⟩
      · rw [if_neg b]
        exact ⟨fun _ => by omega, fun h => absurd h b⟩
theorem OS_hi {kd os st : Int → Int} {hi de : Int} (H : OS kd os st hi de) : hi ≤ 2 * de := by
  have h0 := H.1
  have h1 := H.2.2.2.2
  by_cases e : hi = 0
  · subst e
    rw [h1]
    exact Int.le_refl _
  · obtain ⟨k, hk⟩ := Int.eq_ofNat_of_zero_le (show 0 ≤ hi - 1 by omega)
    have h2 := OS_N H k (by omega)
    have e2 : dp kd hi = dpN kd (k + 1) := by
      unfold dp
      rw [show hi.toNat = k + 1 by omega]
    rw [h1, e2]
    by_cases a : kd k = 2
    · have := h2.2 a
      omega
    · have := h2.1 a
      omega
theorem OS_pop {kd os st : Int → Int} {hi de : Int} (H : OS kd os st hi de) (h : 1 ≤ hi) (hk : kd (hi - 1) ≠ 2) : OS kd os st (hi - 1) (de - 1) := by
  refine ⟨by omega, fun h1 => H.2.1 (by omega), fun j a b => H.2.2.1 j a (by omega), fun j a b => H.2.2.2.1 j a (by omega), ?_⟩
  have e := dp_s kd h
  rw [if_neg hk] at e
  have := H.2.2.2.2
  omega
theorem OS_pob {kd os st : Int → Int} {hi de : Int} (H : OS kd os st hi de) (h : 1 ≤ hi) (hk : kd (hi - 1) = 2) : OS kd os st (hi - 1) de := by
  refine ⟨by omega, fun h1 => H.2.1 (by omega), fun j a b => H.2.2.1 j a (by omega), fun j a b => H.2.2.2.1 j a (by omega), ?_⟩
  have e := dp_s kd h
  rw [if_pos hk] at e
  have := H.2.2.2.2
  omega
/-- one more stands open -/
theorem OS_push {kd os st : Int → Int} {hi de k s : Int} (H : OS kd os st hi de) (h0 : hi = 0 → k = 0) (h1 : k = 1 → s = 33 ∨ s = 45 ∨ s = 126) (h2 : 0 < hi → OSp (kd (hi - 1)) k (st (hi - 1))) : OS (upI kd hi k) (upI os hi s) (upI st hi 0) (hi + 1) (de + (if k = 2 then 0 else 1)) := by
  have hp := H.1
  refine ⟨by omega, fun _ => ?_, fun j a b => ?_, fun j a b => ?_, ?_⟩
  · by_cases e : (0 : Int) = hi
    · subst e
      rw [upI_s]
      exact h0 rfl
    · rw [upI_n e]
      exact H.2.1 (by omega)
  · by_cases e : j = hi
    · subst e
      rw [upI_s, upI_s]
      exact h1
    · rw [upI_n e, upI_n e]
      exact H.2.2.1 j a (by omega)
  · rw [upI_n (show j ≠ hi by omega), upI_n (show j ≠ hi by omega)]
    by_cases e : j + 1 = hi
    · have e2 : j = hi - 1 := by omega
      subst e2
      rw [show hi - 1 + 1 = hi by omega, upI_s]
      exact h2 (by omega)
    · rw [upI_n e]
      exact H.2.2.2.1 j a (by omega)
  · have e := dp_s (upI kd hi k) (show 1 ≤ hi + 1 by omega)
    rw [show hi + 1 - 1 = hi by omega, upI_s, dp_e (kd := kd) hp (fun j _ b => upI_n (by omega))] at e
    rw [e, H.2.2.2.2]
def XT (sg nu kd os st ws : Int → Int) (B n hi de U : Int) : Prop := EX sg nu B n (U + lh st ws hi) ∧ OS kd os st hi de
def XS (sg nu kd os st ws : Int → Int) (B n hi de U : Int) : Prop := XT sg nu kd os st ws B n hi de U ∧ (0 < hi → kd (hi - 1) ≠ 2)
/-- behind a choice that ended -/
def XC (sg nu kd os st ws : Int → Int) (B n hi de : Int) : Prop := EX sg nu B n (1 + lh st ws hi) ∧ OS kd os st (hi + 1) (de + 1) ∧ kd hi = 0
def um (m : Int) : Int := if m = 0 then 0 else 1
theorem um_1 {m : Int} (h : m ≠ 0) : um m = 1 := if_neg h
section XSS
variable {sg nu kd os st ws sg' nu' ws' : Int → Int} {B n hi de U n' h' U' : Int}
theorem XS_of (H : XS sg nu kd os st ws B n hi de U) (E : EX sg' nu' B n' h') (hh : U' + lh st ws hi ≤ h') : XS sg' nu' kd os st ws B n' hi de U' := ⟨⟨EX_w E hh, H.1.2⟩, H.2⟩
theorem lh_push (h0 : 0 ≤ hi) (w1 : ∀ j, j < 9 * hi → ws' j = ws j) (w2 : ∀ j, 9 * hi ≤ j → j < 9 * hi + 9 → ws' j = -1) : lh (upI st hi 0) ws' (hi + 1) = lh st ws hi := by
  rw [lh_s _ _ (show 1 ≤ hi + 1 by omega), show hi + 1 - 1 = hi by omega, upI_s, cnt_n w2, lh_e (st := st) (ws := ws) h0 (fun j _ b => upI_n (by omega)) w1]
  omega
theorem XS_pre {s : Int} (H : XS sg nu kd os st ws B n hi de U) (h1 : 1 ≤ hi) (hs : s = 33 ∨ s = 45 ∨ s = 126) (w1 : ∀ j, j < 9 * hi → ws' j = ws j) (w2 : ∀ j, 9 * hi ≤ j → j < 9 * hi + 9 → ws' j = -1) : XS sg nu (upI kd hi 1) (upI os hi s) (upI st hi 0) ws' B n (hi + 1) (de + 1) U := by
  have ht := H.2 (by omega)
  refine ⟨⟨?_, ?_⟩, fun _ => ?_⟩
  · rw [lh_push (by omega) w1 w2]
    exact H.1.1
  · exact OS_push H.1.2 (fun h => by omega) (fun _ => hs) (fun _ => ⟨fun h => absurd h ht, fun h => by omega, fun _ h => by omega⟩)
  · rw [show hi + 1 - 1 = hi by omega, upI_s]
    decide
theorem XT_bra {s : Int} (H : XS sg nu kd os st ws B n hi de U) (h1 : 1 ≤ hi) (w1 : ∀ j, j < 9 * hi → ws' j = ws j) (w2 : ∀ j, 9 * hi ≤ j → j < 9 * hi + 9 → ws' j = -1) : XT sg nu (upI kd hi 2) (upI os hi s) (upI st hi 0) ws' B n (hi + 1) de U := by
  have ht := H.2 (by omega)
  refine ⟨?_, ?_⟩
  · rw [lh_push (by omega) w1 w2]
    exact H.1.1
  · have := OS_push (k := 2) (s := s) H.1.2 (fun h => by omega) (fun h => by omega) (fun _ => ⟨fun h => absurd h ht, fun h => by omega, fun _ h => by omega⟩)
    rw [if_pos rfl, Int.add_zero] at this
    exact this
theorem XS_cho {s : Int} (H : XT sg nu kd os st ws B n hi de U) (hc : hi = 0 ∨ kd (hi - 1) = 2 ∨ (kd (hi - 1) = 0 ∧ st (hi - 1) = 2)) (w1 : ∀ j, j < 9 * hi → ws' j = ws j) (w2 : ∀ j, 9 * hi ≤ j → j < 9 * hi + 9 → ws' j = -1) : XS sg nu (upI kd hi 0) (upI os hi s) (upI st hi 0) ws' B n (hi + 1) (de + 1) U := by
  have hp := H.2.1
  refine ⟨⟨?_, ?_⟩, fun _ => ?_⟩
  · rw [lh_push hp w1 w2]
    exact H.1
  · exact OS_push H.2 (fun _ => rfl) (fun h => by omega) (fun h => by
      rcases hc with e | e | ⟨e, f⟩
      · omega
      · exact ⟨fun _ => rfl, fun _ => by omega, fun h => by omega⟩
      · exact ⟨fun _ => rfl, fun _ => by omega, fun _ _ => f⟩)
  · rw [show hi + 1 - 1 = hi by omega, upI_s]
    decide
/-- a sign waits, or waits no more -/
theorem XS_ws {i x : Int} (H : XS sg nu kd os st ws B n hi de U) (h1 : 1 ≤ hi) (h2 : 9 * (hi - 1) ≤ i) (h3 : i < 9 * hi) (hU : U' + (if 0 ≤ x then 1 else 0) ≤ U + cn1 ws i) : XS sg nu kd os st (upI ws i x) B n hi de U' := by
  refine ⟨⟨EX_w H.1.1 ?_, H.1.2⟩, H.2⟩
  rw [lh_s st ws h1, lh_s st (upI ws i x) h1, cnt_up h2 (by omega), lh_e (st := st) (ws := ws) (st' := st) (ws' := upI ws i x) (by omega) (fun _ _ _ => rfl) (fun j hj => upI_n (by omega))]
  omega
theorem lh_ws {i : Int} (h1 : 1 ≤ hi) (h2 : 9 * (hi - 1) ≤ i) (h3 : i < 9 * hi) (h4 : 0 ≤ ws i) : lh st ws hi = lh st (upI ws i (-1)) hi + 1 := by
  rw [lh_s st ws h1, lh_s st (upI ws i (-1)) h1, cnt_up h2 (by omega), lh_e (st := st) (ws := ws) (st' := st) (ws' := upI ws i (-1)) (by omega) (fun _ _ _ => rfl) (fun j hj => upI_n (by omega))]
  have e : cn1 ws i = 1 := if_pos h4
  rw [e, if_neg (by decide)]
  omega
/-- the stage of what stands open last -/
theorem XT_st {x i : Int} (hi' : i = hi - 1) (H : XT sg nu kd os st ws B n hi de U) (h1 : 1 ≤ hi) (hU : U' + x ≤ U + st i) : XT sg nu kd os (upI st i x) ws B n hi de U' := by
  subst hi'
  refine ⟨EX_w H.1 ?_, H.2.1, H.2.2.1, H.2.2.2.1, fun j a b => ?_, H.2.2.2.2.2⟩
  · rw [lh_s st ws h1, lh_s (upI st (hi - 1) x) ws h1, upI_s, lh_e (st := st) (ws := ws) (st' := upI st (hi - 1) x) (ws' := ws) (by omega) (fun j _ b => upI_n (by omega)) (fun _ _ => rfl)]
    omega
  · rw [upI_n (by omega)]
    exact H.2.2.2.2.1 j a b
theorem lh_pop (h1 : 1 ≤ hi) (h0 : 0 ≤ st (hi - 1)) : lh st ws (hi - 1) ≤ lh st ws hi := by
  have := cnt_0 ws (hi - 1)
  rw [lh_s st ws h1]
  omega
theorem XS_pop1 (H : XS sg nu kd os st ws B n hi de 1) (h1 : 1 ≤ hi) (hk : kd (hi - 1) = 1) (h0 : 0 ≤ st (hi - 1)) : XS sg nu kd os st ws B n (hi - 1) (de - 1) 1 ∧ 2 ≤ hi := by
  have h2 : hi ≠ 1 := fun e => by
    have := H.1.2.2.1 (by omega)
    rw [e, Int.sub_self] at hk
    omega
  refine ⟨⟨⟨EX_w H.1.1 (by have := lh_pop (st := st) (ws := ws) h1 h0; omega), OS_pop H.1.2 h1 (by omega)⟩, fun h => ?_⟩, by omega⟩
  intro e
  have := (H.1.2.2.2.2.1 (hi - 1 - 1) (by omega) (by omega)).1 e
  rw [show hi - 1 - 1 + 1 = hi - 1 by omega] at this
  omega
theorem XC_0 (H : XS sg nu kd os st ws B n hi de 1) (h1 : 1 ≤ hi) (hk : kd (hi - 1) = 0) (h0 : 0 ≤ st (hi - 1)) : XC sg nu kd os st ws B n (hi - 1) (de - 1) := by
  refine ⟨EX_w H.1.1 (by have := lh_pop (st := st) (ws := ws) h1 h0; omega), ?_, hk⟩
  rw [show hi - 1 + 1 = hi by omega, show de - 1 + 1 = de by omega]
  exact H.1.2
theorem XC_h (H : XC sg nu kd os st ws B n hi de) (h1 : 1 ≤ hi) (hk : kd (hi - 1) = 0) : 3 + lh st ws (hi - 1) ≤ 1 + lh st ws hi := by
  have h2 := (H.2.1.2.2.2.1 (hi - 1) (by omega) (by omega)).2.2 hk
  rw [show hi - 1 + 1 = hi by omega] at h2
  have h3 := h2 H.2.2
  have := cnt_0 ws (hi - 1)
  rw [lh_s st ws h1]
  omega
theorem XC_1 (H : XC sg nu kd os st ws B n hi de) (h1 : 1 ≤ hi) (hk : kd (hi - 1) = 0) (E : EX sg' nu' B n' h') (hh : 1 + lh st ws (hi - 1) ≤ h') : XC sg' nu' kd os st ws B n' (hi - 1) (de - 1) := by
  refine ⟨EX_w E hh, ?_, hk⟩
  have := OS_pop H.2.1 (by omega) (by rw [show hi + 1 - 1 = hi by omega]; rw [H.2.2]; decide)
  rw [show hi + 1 - 1 = hi by omega, show de + 1 - 1 = de by omega] at this
  rw [show hi - 1 + 1 = hi by omega, show de - 1 + 1 = de by omega]
  exact this
theorem XC_end (H : XC sg nu kd os st ws B n 0 de) : XS sg nu kd os st ws B n 0 de 1 := by
  refine ⟨⟨H.1, ?_⟩, fun h => by omega⟩
  have := OS_pop H.2.1 (by omega) (by rw [show (0 : Int) + 1 - 1 = 0 by omega]; rw [H.2.2]; decide)
  rw [show (0 : Int) + 1 - 1 = 0 by omega, show de + 1 - 1 = de by omega] at this
  exact this
theorem XC_bra (H : XC sg nu kd os st ws B n hi de) (h1 : 1 ≤ hi) (hk : kd (hi - 1) ≠ 0) (hr : 0 ≤ kd (hi - 1) ∧ kd (hi - 1) ≤ 2) (h0 : 0 ≤ st (hi - 1)) : XS sg nu kd os st ws B n (hi - 1) de 1 ∧ 2 ≤ hi := by
  have h2 := (H.2.1.2.2.2.1 (hi - 1) (by omega) (by omega)).2.1
  rw [show hi - 1 + 1 = hi by omega] at h2
  have h3 := h2 H.2.2
  have h4 : kd (hi - 1) = 2 := by omega
  have h5 : hi ≠ 1 := fun e => by
    have := H.2.1.2.1 (by omega)
    rw [e, Int.sub_self] at h4
    omega
  have o1 := OS_pop H.2.1 (by omega) (by rw [show hi + 1 - 1 = hi by omega]; rw [H.2.2]; decide)
  rw [show hi + 1 - 1 = hi by omega, show de + 1 - 1 = de by omega] at o1
  refine ⟨⟨⟨EX_w H.1 (by have := lh_pop (st := st) (ws := ws) h1 h0; omega), OS_pob o1 h1 h4⟩, fun h => ?_⟩, by omega⟩
  intro e
  have := (o1.2.2.2.1 (hi - 1 - 1) (by omega) (by omega)).1 e
  rw [show hi - 1 - 1 + 1 = hi - 1 by omega] at this
  omega
theorem XT_new {sg nu kd os st ws : Int → Int} {n : Int} (h0 : 0 ≤ n) (h : CN sg nu n) : XT sg nu kd os st ws n n 0 0 0 := ⟨EX_new h0 h, Int.le_refl _, fun h => by omega, fun j a b => by omega, fun j a b => by omega, rfl⟩
theorem XC_de (H : XC sg nu kd os st ws B n hi de) (h1 : 1 ≤ hi) : 1 ≤ de := by
  have o1 := OS_pop H.2.1 (by omega) (by rw [show hi + 1 - 1 = hi by omega]; rw [H.2.2]; decide)
  rw [show hi + 1 - 1 = hi by omega, show de + 1 - 1 = de by omega] at o1
  have := OS_hi o1
  omega
end XSS
theorem lhN_0 {st : Int → Int} (h : ∀ j, 0 ≤ st j ∧ st j ≤ 2) (ws : Int → Int) (n : Nat) : 0 ≤ lhN st ws n := by
  induction n with
  | zero => exact Int.le_refl _
  | succ n ih =>
    have h1 := h n
    have h2 := cnt_0 ws n
    show 0 ≤ lhN st ws n + st n + cnt ws n
    omega
theorem lh_0 {st : Int → Int} (h : ∀ j, 0 ≤ st j ∧ st j ≤ 2) (ws : Int → Int) (n : Int) : 0 ≤ lh st ws n := lhN_0 h ws n.toNat
