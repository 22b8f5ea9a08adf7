/-! ===== WHAT STANDS OPEN in an EXPR: operands and depth by the marks ===== -/
def wt (x : Int) : Int := if x = 40 ∨ x = 405 ∨ x = 126 ∨ x = 33 then 0 else if x = 58 then 2 else 1
def dw (x : Int) : Int := if x = 40 ∨ x = 405 ∨ x = 126 ∨ x = 33 ∨ x = 58 then 1 else 0
def sfN (g : Int → Int) (f : Int → Int) (n : Nat) : Int := match n with
  | 0 => 0
  | n + 1 => sfN g f n + g (f n)
def sf (g : Int → Int) (f : Int → Int) (n : Int) : Int := sfN g f n.toNat
theorem sfN_o {g f : Int → Int} {i x : Int} (n : Nat) (h : n ≤ i) : sfN g (upI f i x) n = sfN g f n := by
  induction n with
  | zero => rfl
  | succ n ih =>
    show sfN g (upI f i x) n + g (upI f i x n) = sfN g f n + g (f n)
    rw [ih (by omega), upI_n (show (n : Int) ≠ i by omega)]
theorem sf_o {g f : Int → Int} {i x n : Int} (h : n ≤ i) (h0 : 0 ≤ n) : sf g (upI f i x) n = sf g f n := sfN_o n.toNat (by omega)
theorem sf_s (g f : Int → Int) {n : Int} (h : 0 ≤ n) : sf g f (n + 1) = sf g f n + g (f n) := by
  obtain ⟨k, rfl⟩ := Int.eq_ofNat_of_zero_le h
  rfl
theorem sf_p (g f : Int → Int) {n : Int} (h : 1 ≤ n) : sf g f n = sf g f (n - 1) + g (f (n - 1)) := by
  have := sf_s g f (n := n - 1) (by omega)
  rw [show n - 1 + 1 = n by omega] at this
  exact this
theorem sf_push (g f : Int → Int) {n x : Int} (h : 0 ≤ n) : sf g (upI f n x) (n + 1) = sf g f n + g x := by
  rw [sf_s _ _ h, sf_o (Int.le_refl _) h, upI_s]
theorem sf_top (g f : Int → Int) {n x : Int} (h : 1 ≤ n) : sf g (upI f (n - 1) x) n = sf g f (n - 1) + g x := by
  rw [sf_p _ _ h, sf_o (Int.le_refl _) (by omega), upI_s]
theorem wt_dw (x : Int) : 0 ≤ wt x ∧ wt x ≤ 1 + dw x ∧ 0 ≤ dw x ∧ dw x ≤ 1 := by
  unfold wt dw
  split
  · rw [if_pos (by omega)]
    omega
  · split
    · rw [if_pos (by omega)]
      omega
    · rw [if_neg (by omega)]
      omega
theorem sf_bd (f : Int → Int) (n : Nat) : 0 ≤ sfN wt f n ∧ sfN wt f n ≤ n + sfN dw f n ∧ 0 ≤ sfN dw f n := by
  induction n with
  | zero => exact ⟨Int.le_refl _, Int.le_refl _, Int.le_refl _⟩
  | succ n ih =>
    have e1 : sfN wt f (n + 1) = sfN wt f n + wt (f n) := rfl
    have e2 : sfN dw f (n + 1) = sfN dw f n + dw (f n) := rfl
    have := wt_dw (f n)
    omega
theorem sf_b (f : Int → Int) {n : Int} (h : 0 ≤ n) : 0 ≤ sf wt f n ∧ sf wt f n ≤ n + sf dw f n ∧ 0 ≤ sf dw f n := by
  have := sf_bd f n.toNat
  have e : ((n.toNat : Nat) : Int) = n := by omega
  rw [e] at this
  exact this
theorem wt_s {x : Int} (h : x = 40 ∨ x = 405 ∨ x = 126 ∨ x = 33) : wt x = 0 ∧ dw x = 1 := ⟨if_pos h, if_pos (by omega)⟩
theorem wt_c {x : Int} (h : x = 58) : wt x = 2 ∧ dw x = 1 := by
  subst h
  decide
theorem wt_p {x : Int} (h : x ≠ 40 ∧ x ≠ 405 ∧ x ≠ 126 ∧ x ≠ 33 ∧ x ≠ 58) : wt x = 1 ∧ dw x = 0 := ⟨by unfold wt; rw [if_neg (by omega), if_neg (by omega)], if_neg (by omega)⟩
def NKp (kd lf : Int → Int) : Prop := ∀ i, (kd i = 400 → lf i ≤ 220) ∧ (kd i = 401 → lf i ≤ 3)
theorem NKp_up {kd lf : Int → Int} {i x y : Int} (H : NKp kd lf) (h : (x = 400 → y ≤ 220) ∧ (x = 401 → y ≤ 3)) : NKp (upI kd i x) (upI lf i y) := by
  intro j
  by_cases e : j = i
  · subst e
    rw [upI_s, upI_s]
    exact h
  · rw [upI_n e, upI_n e]
    exact H j
def TOk (x : Int) : Prop := x = 40 ∨ x = 405 ∨ x = 126 ∨ x = 33 ∨ x = 58
def PRq (x : Int) : Prop := x = 38 ∨ x = 43 ∨ x = 45 ∨ x = 60 ∨ x = 62 ∨ x = 94 ∨ x = 124 ∨ x = 8509 ∨ x = 9766 ∨ x = 11051 ∨ x = 15420 ∨ x = 15421 ∨ x = 15677 ∨ x = 15933 ∨ x = 15934 ∨ x = 31868
theorem PR_k {x : Int} (h : PRq x) : (x ≠ 40 ∧ x ≠ 405 ∧ x ≠ 126 ∧ x ≠ 33 ∧ x ≠ 58) ∧ x ≠ 400 ∧ x ≠ 401 ∧ 0 ≤ x := by
  unfold PRq at h
  omega
def SMp (mk : Int → Int) (n : Int) : Prop := ∀ i, 0 ≤ i → i < n → (PRq (mk i) ∨ mk i = 63 ∨ TOk (mk i)) ∧ (mk i = 63 ∨ mk i = 58 → i = 0 ∨ TOk (mk (i - 1)))
theorem SM_pop {mk : Int → Int} {n : Int} (H : SMp mk n) : SMp mk (n - 1) := fun i a b => H i a (by omega)
theorem SM_push {mk : Int → Int} {n c : Int} (H : SMp mk n) (h : PRq c ∨ c = 40 ∨ c = 405 ∨ c = 126 ∨ c = 33) : SMp (upI mk n c) (n + 1) := by
  intro i a b
  by_cases e : i = n
  · subst e
    rw [upI_s]
    refine ⟨?_, fun h2 => ?_⟩
    · rcases h with h | h
      · exact Or.inl h
      · exact Or.inr (Or.inr (by unfold TOk; omega))
    · exfalso
      rcases h with h | h
      · unfold PRq at h
        omega
      · omega
  · rw [upI_n e, upI_n (show i - 1 ≠ n by omega)]
    exact H i a (by omega)
theorem SM_pushq {mk : Int → Int} {n : Int} (H : SMp mk n) (h : n = 0 ∨ TOk (mk (n - 1))) : SMp (upI mk n 63) (n + 1) := by
  intro i a b
  by_cases e : i = n
  · subst e
    rw [upI_s, upI_n (show i - 1 ≠ i by omega)]
    exact ⟨Or.inr (Or.inl rfl), fun _ => h⟩
  · rw [upI_n e, upI_n (show i - 1 ≠ n by omega)]
    exact H i a (by omega)
theorem SM_col {mk : Int → Int} {n : Int} (H : SMp mk n) (h1 : 1 ≤ n) (h : mk (n - 1) = 63) : SMp (upI mk (n - 1) 58) n := by
  intro i a b
  by_cases e : i = n - 1
  · subst e
    rw [upI_s, upI_n (show n - 1 - 1 ≠ n - 1 by omega)]
    exact ⟨Or.inr (Or.inr (by unfold TOk; omega)), fun _ => (H _ a b).2 (Or.inl h)⟩
  · rw [upI_n e, upI_n (show i - 1 ≠ n - 1 by omega)]
    exact H i a b
theorem SM_lv {mk : Int → Int} {n x r : Int} (H : SMp mk n) (ht : 1 ≤ n ∧ x = mk (n - 1) ∨ n = 0 ∧ x = -1) (hl : r = 0 → ¬ PRq x) (h : r = 0) : n = 0 ∨ mk (n - 1) = 63 ∨ TOk (mk (n - 1)) := by
  rcases ht with ⟨h1, rfl⟩ | ⟨h1, _⟩
  · rcases (H (n - 1) (by omega) (by omega)).1 with h2 | h2
    · exact absurd h2 (hl h)
    · exact Or.inr h2
  · exact Or.inl h1
def DPp (d w : Int) : Prop := d ≤ 24 ∨ d = 25 ∧ w ≠ 257 ∧ w ≠ 256 ∧ w ≠ 329 ∧ w ≠ 40 ∧ w ≠ 126 ∧ w ≠ 33 ∧ w ≠ 45
def FAp (o : Int) (mk : Int → Int) (n d w : Int) : Prop := SMp mk n ∧ o = sf wt mk n ∧ d = 1 + sf dw mk n ∧ DPp d w
def FBp (o : Int) (mk : Int → Int) (n d : Int) : Prop := SMp mk n ∧ o = sf wt mk n + 1 ∧ d = 1 + sf dw mk n ∧ d ≤ 24
def FGp (r o : Int) (mk : Int → Int) (n d w : Int) : Prop := (r = 1 → FAp o mk n d w) ∧ (r ≠ 1 → FBp o mk n d)
theorem FA_0 (mk : Int → Int) (w : Int) : FAp 0 mk 0 1 w := ⟨fun i a b => absurd b (by omega), rfl, rfl, Or.inl (by omega)⟩
theorem FA_b {o n d w : Int} {mk : Int → Int} (H : FAp o mk n d w) (h0 : 0 ≤ n) (h1 : n ≤ 288) : 0 ≤ o ∧ o ≤ 313 ∧ 1 ≤ d ∧ d ≤ 25 := by
  obtain ⟨_, h2, h3, h4⟩ := H
  have := sf_b mk h0
  unfold DPp at h4
  omega
theorem FB_b {o n d : Int} {mk : Int → Int} (H : FBp o mk n d) (h0 : 0 ≤ n) (h1 : n ≤ 288) : 1 ≤ o ∧ o ≤ 313 ∧ 1 ≤ d ∧ d ≤ 24 := by
  obtain ⟨_, h2, h3, h4⟩ := H
  have := sf_b mk h0
  omega
theorem FA_d {o n d w : Int} {mk : Int → Int} (H : FAp o mk n d w) (h : w = 257 ∨ w = 256 ∨ w = 329 ∨ w = 40 ∨ w = 126 ∨ w = 33 ∨ w = 45) : d ≤ 24 := by
  have := H.2.2.2
  unfold DPp at this
  omega
theorem FA_B {o n d w o' : Int} {mk : Int → Int} (H : FAp o mk n d w) (h : w = 257 ∨ w = 256 ∨ w = 329) (e : o' = o + 1) : FBp o' mk n d := by
  refine ⟨H.1, ?_, H.2.2.1, FA_d H (by omega)⟩
  rw [e, H.2.1]
theorem FB_e {o n d o' : Int} {mk : Int → Int} (H : FBp o mk n d) (e : o' = o) : FBp o' mk n d := by
  rw [e]
  exact H
theorem FA_par {o n d w n' d' w' c : Int} {mk mk' : Int → Int} (H : FAp o mk n d w) (h0 : 0 ≤ n) (hm : mk' = upI mk n c) (hn : n' = n + 1) (hc : c = 40 ∨ c = 405 ∨ c = 126 ∨ c = 33) (hd : d' = d + 1) (hw : DPp d' w') : FAp o mk' n' d' w' := by
  subst hm hn
  have := wt_s hc
  refine ⟨SM_push H.1 (Or.inr hc), ?_, ?_, hw⟩
  · rw [sf_push _ _ h0, H.2.1]
    omega
  · rw [sf_push _ _ h0, hd, H.2.2.1]
    omega
theorem FB_op {o n d n' w c : Int} {mk mk' : Int → Int} (H : FBp o mk n d) (h0 : 0 ≤ n) (hm : mk' = upI mk n c) (hn : n' = n + 1) (hc : PRq c) : FAp o mk' n' d w := by
  subst hm hn
  have := wt_p (PR_k hc).1
  refine ⟨SM_push H.1 (Or.inl hc), ?_, ?_, Or.inl H.2.2.2⟩
  · rw [sf_push _ _ h0, H.2.1]
    omega
  · rw [sf_push _ _ h0, H.2.2.1]
    omega
theorem FB_oq {o n d n' w : Int} {mk mk' : Int → Int} (H : FBp o mk n d) (h0 : 0 ≤ n) (hm : mk' = upI mk n 63) (hn : n' = n + 1) (hc : n = 0 ∨ mk (n - 1) = 63 ∨ TOk (mk (n - 1))) (hx : n = 0 ∨ mk (n - 1) ≠ 63) : FAp o mk' n' d w := by
  subst hm hn
  have := wt_p (x := 63) (by omega)
  refine ⟨SM_pushq H.1 ?_, ?_, ?_, Or.inl H.2.2.2⟩
  · rcases hc with h | h | h
    · exact Or.inl h
    · exact Or.inl (by omega)
    · exact Or.inr h
  · rw [sf_push _ _ h0, H.2.1]
    omega
  · rw [sf_push _ _ h0, H.2.2.1]
    omega
theorem FB_oc {o n d d' w : Int} {mk : Int → Int} (H : FBp o mk n d) (h1 : 1 ≤ n) (h : mk (n - 1) = 63) (hd : d' = d + 1) (hw : DPp d' w) : FAp o (upI mk (n - 1) 58) n d' w := by
  have a1 := wt_p (x := 63) (by omega)
  have a2 := wt_c (x := 58) rfl
  have e1 := sf_p wt mk h1
  have e2 := sf_p dw mk h1
  rw [h] at e1 e2
  refine ⟨SM_col H.1 h1 h, ?_, ?_, hw⟩
  · rw [sf_top _ _ h1, H.2.1]
    omega
  · rw [sf_top _ _ h1, hd, H.2.2.1]
    omega
theorem FB_s {o n d : Int} {mk : Int → Int} (H : FBp o mk n d) (h1 : 1 ≤ n) (h : mk (n - 1) = 40 ∨ mk (n - 1) = 405 ∨ mk (n - 1) = 126 ∨ mk (n - 1) = 33) : FBp o mk (n - 1) (d - 1) := by
  have a1 := wt_s h
  have e1 := sf_p wt mk h1
  have e2 := sf_p dw mk h1
  have b1 := H.2.1
  have b2 := H.2.2.1
  have b3 := H.2.2.2
  exact ⟨SM_pop H.1, by omega, by omega, by omega⟩
theorem FB_p {o n d : Int} {mk : Int → Int} (H : FBp o mk n d) (h1 : 1 ≤ n) (h : PRq (mk (n - 1))) : FBp (o - 1) mk (n - 1) d ∧ 2 ≤ o := by
  have a1 := wt_p (PR_k h).1
  have e1 := sf_p wt mk h1
  have e2 := sf_p dw mk h1
  have b1 := H.2.1
  have b2 := H.2.2.1
  have b3 := H.2.2.2
  have b4 := sf_b mk (n := n - 1) (by omega)
  exact ⟨⟨SM_pop H.1, by omega, by omega, by omega⟩, by omega⟩
theorem FB_c {o n d : Int} {mk : Int → Int} (H : FBp o mk n d) (h1 : 1 ≤ n) (h : mk (n - 1) = 58) : FBp (o - 2) mk (n - 1) (d - 1) ∧ 3 ≤ o ∧ 2 ≤ d ∧ (n - 1 = 0 ∨ TOk (mk (n - 1 - 1))) := by
  have a1 := wt_c h
  have e1 := sf_p wt mk h1
  have e2 := sf_p dw mk h1
  have b1 := H.2.1
  have b2 := H.2.2.1
  have b3 := H.2.2.2
  have b4 := sf_b mk (n := n - 1) (by omega)
  exact ⟨⟨SM_pop H.1, by omega, by omega, by omega⟩, by omega, by omega, (H.1 (n - 1) (by omega) (by omega)).2 (Or.inr h)⟩
theorem NKp_e {kd lf : Int → Int} (H : NKp kd lf) : NKp kd lf := H
theorem TP_p {mk : Int → Int} {n x : Int} (ht : 1 ≤ n ∧ x = mk (n - 1) ∨ n = 0 ∧ x = -1) (h : PRq x) : PRq (mk (n - 1)) ∧ 1 ≤ n := by
  rcases ht with ⟨h1, rfl⟩ | ⟨_, rfl⟩
  · exact ⟨h, h1⟩
  · unfold PRq at h
    omega
theorem TP_s {mk : Int → Int} {n x : Int} (ht : 1 ≤ n ∧ x = mk (n - 1) ∨ n = 0 ∧ x = -1) (h : x = 405 ∨ x = 126 ∨ x = 33) : (mk (n - 1) = 405 ∨ mk (n - 1) = 126 ∨ mk (n - 1) = 33) ∧ 1 ≤ n := by
  rcases ht with ⟨h1, rfl⟩ | ⟨_, rfl⟩
  · exact ⟨h, h1⟩
  · omega
theorem GT_i {mk : Int → Int} {n x : Int} (h3 : n = 0 ∨ mk (n - 1) = 63 ∨ TOk (mk (n - 1))) (ht : 1 ≤ n ∧ x = mk (n - 1) ∨ n = 0 ∧ x = -1) (hx : x ≠ 63) : n = 0 ∨ TOk (mk (n - 1)) := by
  rcases h3 with h | h | h
  · exact Or.inl h
  · rcases ht with ⟨_, rfl⟩ | ⟨h1, _⟩
    · exact absurd h hx
    · exact Or.inl h1
  · exact Or.inr h
theorem GT_b {mk : Int → Int} {n : Int} (h : n = 0 ∨ TOk (mk (n - 1))) (h1 : n ≠ 0) (h2 : n = 0 ∨ mk (n - 1) ≠ 58) : mk (n - 1) = 40 ∨ mk (n - 1) = 405 ∨ mk (n - 1) = 126 ∨ mk (n - 1) = 33 := by
  rcases h with h | h
  · exact absurd h h1
  · unfold TOk at h
    omega
