section FLD
variable {K M : mR}
theorem fieldOf_k {h a b : Int} (h0 : 0 ≤ h) (h1 : h < 12) : RP (kf_pr_fieldOf h a b K) (fun r => (0 ≤ r ∧ r < 16 ∧ 0 < K.2 10 (16 * h + r) ∧ K.2 11 (16 * h + r) = a ∧ K.2 12 (16 * h + r) = b) ∨ (r = -1 ∧ ∀ j, 0 ≤ j → j < 16 → ¬ (0 < K.2 10 (16 * h + j) ∧ K.2 11 (16 * h + j) = a ∧ K.2 12 (16 * h + j) = b))) := by
  unfold kf_pr_fieldOf
  refine RP_bnd (P := sel (fun r : Int => 0 ≤ r ∧ r < 16 ∧ 0 < K.2 10 (16 * h + r) ∧ K.2 11 (16 * h + r) = a ∧ K.2 12 (16 * h + r) = b) (fun _ : Unit => ∀ j, 0 ≤ j → j < 16 → ¬ (0 < K.2 10 (16 * h + j) ∧ K.2 11 (16 * h + j) = a ∧ K.2 12 (16 * h + j) = b))) ?_ (RP_sl (fun e he => RP_some (Or.inl he)) (fun e he => RP_some (Or.inr ⟨rfl, he⟩)))
  refine RP_whl (I := fun s : Int => 0 ≤ s ∧ s ≤ 16 ∧ ∀ j, 0 ≤ j → j < s → ¬ (0 < K.2 10 (16 * h + j) ∧ K.2 11 (16 * h + j) = a ∧ K.2 12 (16 * h + j) = b)) (fun s hs => ?_) ⟨by decide, by decide, fun i a b => absurd b (by omega)⟩
  obtain ⟨a0, b0, c0⟩ := hs
  unfold kfb_pr_fieldOf_3 kfl_pr_fieldOf_57
  refine RP_ite (fun g => RP_some (fun j j0 j1 => c0 j j0 (by omega))) (fun g => ?_)
  rw [cut_i (z := h * 16) (by omega) (by omega), cut_i (z := h * 16 + s) (by omega) (by omega), cut_i (z := s + 1) (by omega) (by omega), show h * 16 + s = 16 * h + s by omega]
  have step : ¬ (0 < K.2 10 (16 * h + s) ∧ K.2 11 (16 * h + s) = a ∧ K.2 12 (16 * h + s) = b) → RP (some (Sum.inl (s + 1)) : Option (Sum Int (Sum Int Unit))) (sel (fun s : Int => 0 ≤ s ∧ s ≤ 16 ∧ ∀ j, 0 ≤ j → j < s → ¬ (0 < K.2 10 (16 * h + j) ∧ K.2 11 (16 * h + j) = a ∧ K.2 12 (16 * h + j) = b)) (sel (fun r : Int => 0 ≤ r ∧ r < 16 ∧ 0 < K.2 10 (16 * h + r) ∧ K.2 11 (16 * h + r) = a ∧ K.2 12 (16 * h + r) = b) (fun _ : Unit => ∀ j, 0 ≤ j → j < 16 → ¬ (0 < K.2 10 (16 * h + j) ∧ K.2 11 (16 * h + j) = a ∧ K.2 12 (16 * h + j) = b)))) := by
    intro hn
    refine RP_some ⟨by omega, by omega, fun j j0 j1 => ?_⟩
    by_cases hj : j < s
    · exact c0 j j0 hj
    · rw [show j = s by omega]
      exact hn
  refine RP_ite (fun g1 => step (fun q => by have := q.1; omega)) (fun g1 => ?_)
  refine RP_ite (fun g2 => ?_) (fun g2 => step (fun q => g2 (cmp64_0.mpr q.2.1)))
  exact RP_ite (fun g3 => RP_some ⟨a0, by omega, by omega, cmp64_0.mp g2, cmp64_0.mp g3⟩) (fun g3 => step (fun q => g3 (cmp64_0.mpr q.2.2)))
/-- a field of a header is the word at hand, told by both -/
theorem fld_iff (h : LR K M) (hD : HD K M) (h1 : M.1 7 = 1) {x i : Int} (x0 : 0 ≤ x) (x1 : x < M.1 19) (i0 : 0 ≤ i) (i1 : i < M.2 29 x) : (K.2 11 (16 * x + i) = K.1 209 ∧ K.2 12 (16 * x + i) = K.1 210) ↔ sameN (M.2 4) (M.1 8) (M.1 9) (M.2 31 (16 * x + i)) (M.2 32 (16 * x + i)) := by
  obtain ⟨n16, nch, npk, nr1, nr2⟩ := h.2.1.2.2.2.2.2.2.2.2 h1
  obtain ⟨xe, y1, y2⟩ := h.2.1.2.2.2.2.2.1 (by omega)
  obtain ⟨d1, d2, d3, d4, d5⟩ := hD.1 x x0 x1
  obtain ⟨t1, t2, t3, t4, t5, t6, t7, t8, t9, t10, t11⟩ := d4 i i0 i1
  constructor
  · intro hh
    have npk2 := npk
    rw [← hh.1, ← hh.2] at npk2
    have := PK_inj t9 npk2 (by omega) (by omega) t6 n16 (fun j j0 j1 => namP_p (t8 j j0 j1)) (fun j j0 j1 => namP_p (nch j j0 j1))
    exact ⟨this.1, this.2⟩
  · intro hs
    have npk2 : PK (K.1 209) (K.1 210) (fun j => M.2 4 (M.1 8 + j)) (M.2 32 (16 * x + i)) := by
      rw [hs.1]
      exact npk
    exact PK_c t10 t11 nr1 nr2 t9 npk2 (fun j j0 j1 => hs.2 j j0 j1)
theorem fdl_r (h : LR K M) (hD : HD K M) (h1 : M.1 7 = 1) {x : Int} (x0 : 0 ≤ x) (x1 : x < M.1 19) (x12 : M.1 19 ≤ 12) : RP (whl (rfb_takeFieldOf_60 x (16 * x + M.2 29 x)) (16 * x, M)) (fun e => (e = M ∧ ∀ i, 0 ≤ i → i < M.2 29 x → ¬ sameN (M.2 4) (M.1 8) (M.1 9) (M.2 31 (16 * x + i)) (M.2 32 (16 * x + i))) ∨ (0 < e.1 10 ∧ ∃ i, 0 ≤ i ∧ i < M.2 29 x ∧ sameN (M.2 4) (M.1 8) (M.1 9) (M.2 31 (16 * x + i)) (M.2 32 (16 * x + i)))) := by
  obtain ⟨d1, d2, d3, d4, d5⟩ := hD.1 x x0 x1
  have hf := h.2.2.2.2
  have h8 := LR_8 h h1
  refine RP_whl (I := fun s : Int × mR => 16 * x ≤ s.1 ∧ s.1 ≤ 16 * x + M.2 29 x ∧ ((s.2 = M ∧ ∀ i, 0 ≤ i → 16 * x + i < s.1 → ¬ sameN (M.2 4) (M.1 8) (M.1 9) (M.2 31 (16 * x + i)) (M.2 32 (16 * x + i))) ∨ (0 < s.2.1 10 ∧ ∃ i, 0 ≤ i ∧ i < M.2 29 x ∧ sameN (M.2 4) (M.1 8) (M.1 9) (M.2 31 (16 * x + i)) (M.2 32 (16 * x + i))))) (fun s hs => ?_) ⟨by show 16 * x ≤ 16 * x; omega, by show 16 * x ≤ _; omega, Or.inl ⟨rfl, fun i i0 i1 => absurd (show 16 * x + i < 16 * x from i1) (by omega)⟩⟩
  obtain ⟨k, m⟩ := s
  obtain ⟨a, b, c⟩ := hs
  have a : 16 * x ≤ k := a
  have b : k ≤ 16 * x + M.2 29 x := b
  unfold rfb_takeFieldOf_60 rfl_takeFieldOf_100
  show RP (if 16 * x + M.2 29 x ≤ k then some (Sum.inr m) else if m.1 10 = 0 then bnd (rf_isHere (m.2 31 k) (m.2 32 k) m) fun y18 => if y18 = 0 then some (Sum.inl (cut (k + 1), m)) else bnd (rf_wrong 3 (m.1 8) m) fun y21 => some (Sum.inl (cut (k + 1), y21.2)) else some (Sum.inr m)) _
  refine RP_ite (fun g => ?_) (fun g => ?_)
  · rcases c with ⟨c1, c2⟩ | c
    · exact RP_some (Or.inl ⟨c1, fun i i0 i1 => c2 i i0 (show 16 * x + i < k by omega)⟩)
    · exact RP_some (Or.inr c)
  · refine RP_ite (fun g1 => ?_) (fun g1 => ?_)
    · rcases c with ⟨c1, c2⟩ | c
      · have c1 : m = M := c1
        subst c1
        obtain ⟨t1, t2, t3, t4, t5, t6, t7, t8, t9, t10, t11⟩ := d4 (k - 16 * x) (by omega) (by omega)
        rw [show 16 * x + (k - 16 * x) = k by omega] at t4 t5 t6 t7
        rw [cut_i (by omega) (by omega)]
        refine RP_bnd (isHere_r h.1.1 ⟨h8.1, h8.2.1⟩ t4 (by omega) t7) (fun y hy => ?_)
        rcases hy with ⟨y1, y2⟩ | ⟨y1, y2⟩
        · rw [if_neg (by omega)]
          refine RP_bnd (wrong_1 (by decide)) (fun z hz => RP_some ⟨by show 16 * x ≤ k + 1; omega, by show k + 1 ≤ _; omega, Or.inr ⟨hz, k - 16 * x, by omega, by omega, ?_⟩⟩)
          rw [show 16 * x + (k - 16 * x) = k by omega]
          exact y2
        · rw [if_pos y1]
          refine RP_some ⟨by show 16 * x ≤ k + 1; omega, by show k + 1 ≤ _; omega, Or.inl ⟨rfl, fun i i0 i1 => ?_⟩⟩
          have i1 : 16 * x + i < k + 1 := i1
          by_cases hi : 16 * x + i < k
          · exact c2 i i0 hi
          · rw [show 16 * x + i = k by omega]
            exact y2
      · exact absurd g1 (by have c9 : 0 < m.1 10 := c.1; omega)
    · rcases c with ⟨c1, c2⟩ | c
      · have c1 : m = M := c1
        subst c1
        exact absurd hf g1
      · exact RP_some (Or.inr c)
theorem sumW_c {f g : Int → Int} {b : Int} {n : Nat} (h : ∀ i : Nat, i < n → f (b + i) = g (b + i)) : sumW f b n = sumW g b n := by
  induction n with
  | zero => rfl
  | succ n ih =>
    unfold sumW
    rw [ih (fun i hi => h i (by omega)), h n (by omega)]
theorem sumW_u {f : Int → Int} {b i x : Int} (i0 : 0 ≤ i) (hf : f (b + i) = 0) : ∀ n : Nat, i < n → sumW (upI f (b + i) x) b n = sumW f b n + x := by
  intro n
  induction n with
  | zero => intro h; omega
  | succ n ih =>
    intro h
    unfold sumW
    by_cases e : i = n
    · rw [← e, upI_s, hf, sumW_c (g := f) (fun j hj => upI_n (by omega))]
      omega
    · rw [ih (by omega), upI_n (by omega)]
      omega
end FLD
