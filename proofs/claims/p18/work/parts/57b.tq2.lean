/-! ===== who is the same, which action is listed ===== -/
section TQ2
variable {K M : mR} {t r : Int}
/-- a loop that asks whether all are so -/
def alI (n : Int) (Q : Int → Prop) (s : Int × Int) : Prop := (0 ≤ s.2 ∧ s.2 ≤ n) ∧ ((s.1 = 1 ∧ ∀ i, 0 ≤ i → i < s.2 → Q i) ∨ (s.1 = 0 ∧ ∃ i, 0 ≤ i ∧ i < s.2 ∧ ¬ Q i))
theorem alL {n : Int} {Q : Int → Prop} {f : Int × Int → Option (Sum (Int × Int) Int)} (n0 : 0 ≤ n) (h1 : ∀ s : Int × Int, n ≤ s.2 → f s = some (Sum.inr s.1)) (h2 : ∀ s : Int × Int, 0 ≤ s.2 → s.2 < n → (s.1 = 0 ∨ s.1 = 1) → RP (f s) (fun u => (u = Sum.inl (s.1, s.2 + 1) ∧ Q s.2) ∨ (u = Sum.inl (0, s.2 + 1) ∧ (¬ Q s.2 ∨ s.1 = 0)))) : RP (whl f (1, 0)) (fun y => (y = 1 ∧ ∀ i, 0 ≤ i → i < n → Q i) ∨ (y = 0 ∧ ∃ i, 0 ≤ i ∧ i < n ∧ ¬ Q i)) := by
  refine RP_whl (I := alI n Q) (fun s hs => ?_) ⟨⟨Int.le_refl _, n0⟩, Or.inl ⟨rfl, fun i i0 i1 => by have i1 : i < 0 := i1; omega⟩⟩
  obtain ⟨⟨a0, a1⟩, a2⟩ := hs
  by_cases g : n ≤ s.2
  · rw [h1 s g]
    have e : s.2 = n := by omega
    rw [e] at a2
    exact RP_some a2
  · have s01 : s.1 = 0 ∨ s.1 = 1 := by
      rcases a2 with ⟨p, -⟩ | ⟨p, -⟩
      · exact Or.inr p
      · exact Or.inl p
    refine RP_w (h2 s a0 (by omega) s01) (fun u hu => ?_)
    rcases hu with ⟨rfl, q⟩ | ⟨rfl, q⟩
    · refine (show alI n Q (s.1, s.2 + 1) from ⟨⟨show 0 ≤ s.2 + 1 by omega, show s.2 + 1 ≤ n by omega⟩, ?_⟩)
      rcases a2 with ⟨p1, p2⟩ | ⟨p1, i, i0, i1, i2⟩
      · refine Or.inl ⟨p1, fun i i0 i1 => ?_⟩
        have i1 : i < s.2 + 1 := i1
        by_cases e : i = s.2
        · rw [e]; exact q
        · exact p2 i i0 (by omega)
      · exact Or.inr ⟨p1, i, i0, show i < s.2 + 1 by omega, i2⟩
    · refine (show alI n Q (0, s.2 + 1) from ⟨⟨show 0 ≤ s.2 + 1 by omega, show s.2 + 1 ≤ n by omega⟩, Or.inr ⟨rfl, ?_⟩⟩)
      show ∃ i, 0 ≤ i ∧ i < s.2 + 1 ∧ ¬ Q i
      rcases q with q | q
      · exact ⟨s.2, a0, by omega, q⟩
      · rcases a2 with ⟨p, -⟩ | ⟨-, i, i0, i1, i2⟩
        · omega
        · exact ⟨i, i0, by omega, i2⟩
theorem isOf_r {a : Int} (t0 : 0 ≤ t) (t1 : t < 8) (h0 : 0 ≤ M.2 53 t) (h1 : M.2 53 t ≤ 8) : RP (rf_isOf t a M) (fun y => (y = 1 ∧ ∃ i, 0 ≤ i ∧ i < M.2 53 t ∧ M.2 114 (8 * t + i) = a) ∨ (y = 0 ∧ ∀ i, 0 ≤ i → i < M.2 53 t → M.2 114 (8 * t + i) ≠ a)) := by
  unfold rf_isOf
  rw [cut_i (z := 8 * t) (by omega) (by omega)]
  refine RP_bnd (P := fun y => (y = 1 ∧ ∃ i, 0 ≤ i ∧ i < M.2 53 t ∧ M.2 114 (8 * t + i) = a) ∨ (y = 0 ∧ ∀ i, 0 ≤ i → i < M.2 53 t → M.2 114 (8 * t + i) ≠ a)) (RP_whl (I := fun s : Int × Int => (8 * t ≤ s.2 ∧ s.2 ≤ 8 * t + M.2 53 t) ∧ ((s.1 = 1 ∧ ∃ i, 0 ≤ i ∧ i < M.2 53 t ∧ M.2 114 (8 * t + i) = a) ∨ (s.1 = 0 ∧ ∀ i, 0 ≤ i → 8 * t + i < s.2 → M.2 114 (8 * t + i) ≠ a))) (fun s hs => ?_) ⟨⟨Int.le_refl _, show 8 * t ≤ 8 * t + M.2 53 t by omega⟩, Or.inr ⟨rfl, fun i i0 i1 => by have i1 : 8 * t + i < 8 * t := i1; omega⟩⟩) (fun e he => RP_some he)
  obtain ⟨⟨a0, a1⟩, a2⟩ := hs
  unfold rfb_isOf_8 rfl_isOf_39 rfl_isOf_44
  rw [cut_i (z := 8 * t) (by omega) (by omega), cut_i (z := 8 * t + M.2 53 t) (by omega) (by omega), cut_i (z := s.2 + 1) (by omega) (by omega)]
  refine RP_ite (fun g => RP_some ?_) (fun g => ?_)
  · show (s.1 = 1 ∧ _) ∨ (s.1 = 0 ∧ _)
    rcases a2 with q | ⟨q1, q2⟩
    · exact Or.inl q
    · exact Or.inr ⟨q1, fun i i0 i1 => q2 i i0 (by omega)⟩
  · refine RP_ite (fun g1 => RP_ite (fun g2 => RP_some ?_) (fun g2 => RP_some ?_)) (fun g1 => RP_some ?_)
    · refine ⟨⟨show 8 * t ≤ s.2 + 1 by omega, show s.2 + 1 ≤ _ by omega⟩, Or.inl ⟨rfl, s.2 - 8 * t, by omega, by omega, ?_⟩⟩
      rw [show 8 * t + (s.2 - 8 * t) = s.2 by omega]
      exact g2
    · refine ⟨⟨show 8 * t ≤ s.2 + 1 by omega, show s.2 + 1 ≤ _ by omega⟩, Or.inr ⟨rfl, fun i i0 i1 => ?_⟩⟩
      have i1 : 8 * t + i < s.2 + 1 := i1
      rcases a2 with ⟨q1, -⟩ | ⟨q1, q2⟩
      · omega
      · by_cases e : 8 * t + i = s.2
        · rw [e]; exact g2
        · exact q2 i i0 (by omega)
    · refine ⟨⟨show 8 * t ≤ s.2 + 1 by omega, show s.2 + 1 ≤ _ by omega⟩, Or.inl ⟨rfl, ?_⟩⟩
      rcases a2 with ⟨-, q2⟩ | ⟨q1, -⟩
      · exact q2
      · exact absurd q1 g1
/-- entry e has the keys that are asked for -/
def sqQ (t e : Int) (M : mR) (i : Int) : Prop := M.2 143 (4 * (96 * t + e) + i) = and64 (M.2 161 i) (mk64 (M.2 112 (4 * t + i))) ∧ M.2 142 (4 * (96 * t + e) + i) = and64 (M.2 160 i) (and64 (M.2 161 i) (mk64 (M.2 112 (4 * t + i))))
def sqM (t e : Int) (M : mR) : Prop := ∀ i, 0 ≤ i → i < M.2 51 t → sqQ t e M i
theorem same1_r {f e : Int} (t0 : 0 ≤ t) (t1 : t < 8) (e0 : 0 ≤ e) (e1 : e < 96) (h0 : 0 ≤ M.2 51 t) (h1 : M.2 51 t ≤ 4) (hR : ∀ i, 0 ≤ i → i < 4 → R64 (M.2 161 i)) : RP (whl (rfb_findSame_20 t f e M) (1, 0)) (fun y => (y = 1 ∧ sqM t e M) ∨ (y = 0 ∧ ∃ i, 0 ≤ i ∧ i < M.2 51 t ∧ ¬ sqQ t e M i)) := by
  refine alL h0 (fun s g => ?_) (fun s s0 s1 s01 => ?_)
  · unfold rfb_findSame_20
    rw [if_pos g]
  · unfold rfb_findSame_20 rf_slot rfl_findSame_114 rfl_findSame_115
    rw [if_neg (by omega), bnd_some, rcut (hR s.2 s0 (by omega)), bnd_some, cut_i (z := 4 * t) (by omega) (by omega), cut_i (z := 4 * t + s.2) (by omega) (by omega), cut_i (z := 96 * t) (by omega) (by omega), cut_i (z := 96 * t + e) (by omega) (by omega), cut_i (z := 4 * (96 * t + e)) (by omega) (by omega), cut_i (z := 4 * (96 * t + e) + s.2) (by omega) (by omega), cut_i (z := s.2 + 1) (by omega) (by omega)]
    refine RP_ite (fun g => RP_some (Or.inr ⟨rfl, Or.inr g⟩)) (fun g => ?_)
    have e1' : s.1 = 1 := by
      rcases s01 with q | q
      · exact absurd q g
      · exact q
    refine RP_ite (fun g1 => RP_ite (fun g2 => RP_some (Or.inl ⟨?_, cmp64_0.mp g1, cmp64_0.mp g2⟩)) (fun g2 => RP_some (Or.inr ⟨rfl, Or.inl (fun q => g2 (cmp64_0.mpr q.2))⟩))) (fun g1 => RP_some (Or.inr ⟨rfl, Or.inl (fun q => g1 (cmp64_0.mpr q.1))⟩))
    rw [e1']
theorem fins_r (t0 : 0 ≤ t) (t1 : t < 8) (h0 : 0 ≤ M.2 51 t) (h1 : M.2 51 t ≤ 4) (n0 : 0 ≤ M.2 139 t) (n1 : M.2 139 t ≤ 96) (hR : ∀ i, 0 ≤ i → i < 4 → R64 (M.2 161 i)) : RP (rf_findSame t M) (fun y => (y = -1 ∧ ∀ e, 0 ≤ e → e < M.2 139 t → ¬ sqM t e M) ∨ (0 ≤ y ∧ y < M.2 139 t ∧ sqM t y M)) := by
  unfold rf_findSame
  refine RP_bnd (P := fun y => (y = -1 ∧ ∀ e, 0 ≤ e → e < M.2 139 t → ¬ sqM t e M) ∨ (0 ≤ y ∧ y < M.2 139 t ∧ sqM t y M)) (RP_whl (I := fun s : Int × Int => (0 ≤ s.2 ∧ s.2 ≤ M.2 139 t) ∧ ((s.1 = -1 ∧ ∀ e, 0 ≤ e → e < s.2 → ¬ sqM t e M) ∨ (0 ≤ s.1 ∧ s.1 < M.2 139 t ∧ sqM t s.1 M))) (fun s hs => ?_) ⟨⟨Int.le_refl _, n0⟩, Or.inl ⟨rfl, fun i i0 i1 => by have i1 : i < 0 := i1; omega⟩⟩) (fun e he => RP_some he)
  obtain ⟨⟨a0, a1⟩, a2⟩ := hs
  unfold rfb_findSame_4
  refine RP_ite (fun g => RP_some ?_) (fun g => ?_)
  · have e : s.2 = M.2 139 t := by omega
    rw [e] at a2
    exact a2
  · refine RP_bnd (same1_r t0 t1 a0 (by omega) h0 h1 hR) (fun y hy => ?_)
    unfold rfl_findSame_123 rfl_findSame_133
    rw [cut_i (z := s.2 + 1) (by omega) (by omega)]
    rcases hy with ⟨rfl, hy⟩ | ⟨rfl, i, i0, i1, i2⟩
    · rw [if_neg (by decide)]
      exact RP_some ⟨⟨show 0 ≤ s.2 + 1 by omega, show s.2 + 1 ≤ _ by omega⟩, Or.inr ⟨a0, show s.2 < M.2 139 t by omega, hy⟩⟩
    · rw [if_pos rfl]
      refine RP_some ⟨⟨show 0 ≤ s.2 + 1 by omega, show s.2 + 1 ≤ _ by omega⟩, ?_⟩
      rcases a2 with ⟨q1, q2⟩ | q
      · refine Or.inl ⟨q1, fun e e0 e1 => ?_⟩
        have e1 : e < s.2 + 1 := e1
        by_cases ee : e = s.2
        · rw [ee]
          exact fun z => i2 (z i i0 i1)
        · exact q2 e e0 (by omega)
      · exact Or.inr q
/-! the class -/
def skQ (t r e : Int) (K : mR) (i : Int) : Prop := K.2 85 (65536 * t + (e * 4 + i)) = K.2 103 (65536 * r + i) ∧ K.2 86 (65536 * t + (e * 4 + i)) = K.2 104 (65536 * r + i)
def skK (t r e : Int) (K : mR) : Prop := ∀ i, 0 ≤ i → i < K.2 72 t → skQ t r e K i
theorem same1_k {e : Int} (e0 : 0 ≤ e) (e1 : e < 96) (h0 : 0 ≤ K.2 72 t) (h1 : K.2 72 t ≤ 4) : RP (whl (kfb_tb_same_b103_b104_16 t r r e K) (1, 0)) (fun y => (y = 1 ∧ skK t r e K) ∨ (y = 0 ∧ ∃ i, 0 ≤ i ∧ i < K.2 72 t ∧ ¬ skQ t r e K i)) := by
  obtain ⟨z1, z2, z3, z4⟩ := and32_01
  refine alL h0 (fun s g => ?_) (fun s s0 s1 s01 => ?_)
  · unfold kfb_tb_same_b103_b104_16
    rw [if_pos g]
  · unfold kfb_tb_same_b103_b104_16 kfl_tb_same_b103_b104_69 kfl_tb_same_b103_b104_70
    rw [if_neg (by omega), cut_i (z := e * 4) (by omega) (by omega), cut_i (z := e * 4 + s.2) (by omega) (by omega), cut_i (z := s.2 + 1) (by omega) (by omega)]
    have x1 : and32 s.1 1 = s.1 := by rcases s01 with q | q <;> rw [q] <;> assumption
    have x0 : and32 s.1 0 = 0 := by rcases s01 with q | q <;> rw [q] <;> assumption
    rw [x1, x0]
    exact RP_ite (fun g1 => RP_ite (fun g2 => RP_some (Or.inl ⟨rfl, cmp64_0.mp g1, cmp64_0.mp g2⟩)) (fun g2 => RP_some (Or.inr ⟨rfl, Or.inl (fun q => g2 (cmp64_0.mpr q.2))⟩))) (fun g1 => RP_some (Or.inr ⟨rfl, Or.inl (fun q => g1 (cmp64_0.mpr q.1))⟩))
theorem same_k (h0 : 0 ≤ K.2 72 t) (h1 : K.2 72 t ≤ 4) (n0 : 0 ≤ K.2 78 t) (n1 : K.2 78 t ≤ 72) : RP (kf_tb_same_b103_b104 t r r K) (fun y => (y = -1 ∧ ∀ e, 0 ≤ e → e < K.2 78 t → ¬ skK t r e K) ∨ (0 ≤ y ∧ y < K.2 78 t ∧ skK t r y K)) := by
  unfold kf_tb_same_b103_b104
  refine RP_bnd (P := sel (fun y : Int => 0 ≤ y ∧ y < K.2 78 t ∧ skK t r y K) (fun _ : Unit => ∀ e, 0 ≤ e → e < K.2 78 t → ¬ skK t r e K)) (RP_whl (I := fun s : Int => (0 ≤ s ∧ s ≤ K.2 78 t) ∧ ∀ e, 0 ≤ e → e < s → ¬ skK t r e K) (fun s hs => ?_) ⟨⟨Int.le_refl _, n0⟩, fun i i0 i1 => by omega⟩) (RP_sl (fun e he => RP_some (Or.inr he)) (fun e he => RP_some (Or.inl ⟨rfl, he⟩)))
  obtain ⟨⟨a0, a1⟩, a2⟩ := hs
  unfold kfb_tb_same_b103_b104_2
  refine RP_ite (fun g => RP_some ?_) (fun g => ?_)
  · show ∀ e, 0 ≤ e → e < K.2 78 t → ¬ skK t r e K
    exact fun e e0 e1 => a2 e e0 (by omega)
  · refine RP_bnd (same1_k a0 (by omega) h0 h1) (fun y hy => ?_)
    unfold kfl_tb_same_b103_b104_79
    rw [cut_i (z := s + 1) (by omega) (by omega)]
    rcases hy with ⟨rfl, hy⟩ | ⟨rfl, i, i0, i1, i2⟩
    · rw [if_neg (by decide)]
      exact RP_some (show 0 ≤ s ∧ s < K.2 78 t ∧ skK t r s K from ⟨a0, by omega, hy⟩)
    · rw [if_pos rfl]
      refine RP_some (show (0 ≤ s + 1 ∧ s + 1 ≤ K.2 78 t) ∧ ∀ e, 0 ≤ e → e < s + 1 → ¬ skK t r e K from ⟨⟨by omega, by omega⟩, fun e e0 e1 => ?_⟩)
      by_cases ee : e = s
      · rw [ee]
        exact fun z => i2 (z i i0 i1)
      · exact a2 e e0 (by omega)
end TQ2
