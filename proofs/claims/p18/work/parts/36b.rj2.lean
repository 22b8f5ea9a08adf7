/-! ===== states that come round, in the class ===== -/
section CI2
variable {K m : mR}
def EK (K : mR) (s g : Int) : Prop := 0 ≤ s ∧ s < K.1 221 ∧ K.2 26 s ≤ 0 ∧ (g = K.2 34 s ∨ ∃ i, 0 ≤ i ∧ i < K.2 30 s ∧ g = K.2 33 (8 * s + i))
/-- what the states' numbers keep within -/
def SR (K : mR) : Prop := (0 ≤ K.1 221 ∧ K.1 221 ≤ 16) ∧ ∀ s, 0 ≤ s → s < K.1 221 → (0 ≤ K.2 30 s ∧ K.2 30 s ≤ 8) ∧ (0 ≤ K.2 34 s ∧ K.2 34 s < 18) ∧ ∀ i, 0 ≤ i → i < K.2 30 s → 0 ≤ K.2 33 (8 * s + i) ∧ K.2 33 (8 * s + i) < 18
theorem goalsOf_k {s : Int} (h : SR K) (s0 : 0 ≤ s) (s1 : s < K.1 221) : RP (kf_ss_goalsOf s K) (fun r => ∀ b, 0 ≤ b → b < 18 → (btt r b ↔ (b = K.2 34 s ∨ ∃ i, 0 ≤ i ∧ i < K.2 30 s ∧ b = K.2 33 (8 * s + i)))) := by
  obtain ⟨⟨n0, n1⟩, h2⟩ := h
  obtain ⟨⟨c0, c1⟩, ⟨g0, g1⟩, hc⟩ := h2 s s0 s1
  unfold kf_ss_goalsOf
  refine RP_bnd (P := fun r => ∀ b, 0 ≤ b → b < 18 → (btt r b ↔ (b = K.2 34 s ∨ ∃ i, 0 ≤ i ∧ i < K.2 30 s ∧ b = K.2 33 (8 * s + i)))) ?_ (fun e he => RP_some he)
  refine RP_whl (I := fun q : Int × Int => 0 ≤ q.2 ∧ q.2 ≤ K.2 30 s ∧ ∀ b, 0 ≤ b → b < 18 → (btt q.1 b ↔ (b = K.2 34 s ∨ ∃ i, 0 ≤ i ∧ i < q.2 ∧ b = K.2 33 (8 * s + i)))) (fun q hq => ?_) ⟨(show (0 : Int) ≤ 0 by decide), c0, fun b b0 b1 => ?_⟩
  · obtain ⟨r, i⟩ := q
    obtain ⟨q0, q1, q2⟩ := hq
    have q0 : 0 ≤ i := q0
    have q1 : i ≤ K.2 30 s := q1
    unfold kfb_ss_goalsOf_11
    show RP (if K.2 30 s ≤ i then some (Sum.inr r) else some (Sum.inl (or32 r (shl32 1 (K.2 33 (cut (cut (s * 8) + i)))), cut (i + 1)))) _
    refine RP_ite (fun g => RP_some (fun b b0 b1 => ?_)) (fun g => ?_)
    · have e : i = K.2 30 s := by omega
      have := q2 b b0 b1
      rw [← e]
      exact this
    · rw [cut_i (z := s * 8) (by omega) (by omega), cut_i (z := s * 8 + i) (by omega) (by omega), cut_i (z := i + 1) (by omega) (by omega), show s * 8 + i = 8 * s + i by omega]
      refine RP_some ⟨by show 0 ≤ i + 1; omega, by show i + 1 ≤ K.2 30 s; omega, fun b b0 b1 => ?_⟩
      obtain ⟨k0, k1⟩ := hc i q0 (by omega)
      show btt (or32 r (shl32 1 (K.2 33 (8 * s + i)))) b ↔ (b = K.2 34 s ∨ ∃ j, 0 ≤ j ∧ j < i + 1 ∧ b = K.2 33 (8 * s + j))
      rw [btt_or b0 (by omega), btt_sh k0 k1 b0 b1]
      have q2 := q2 b b0 b1
      have q2 : btt r b ↔ (b = K.2 34 s ∨ ∃ j, 0 ≤ j ∧ j < i ∧ b = K.2 33 (8 * s + j)) := q2
      rw [q2]
      constructor
      · rintro ((p | ⟨j, j0, j1, j2⟩) | p)
        · exact Or.inl p
        · exact Or.inr ⟨j, j0, by omega, j2⟩
        · exact Or.inr ⟨i, q0, by omega, p⟩
      · rintro (p | ⟨j, j0, j1, j2⟩)
        · exact Or.inl (Or.inl p)
        · by_cases e : j = i
          · exact Or.inr (by rw [← e]; exact j2)
          · exact Or.inl (Or.inr ⟨j, j0, by omega, j2⟩)
  · show btt (shl32 1 (K.2 34 s)) b ↔ (b = K.2 34 s ∨ ∃ i, 0 ≤ i ∧ i < 0 ∧ b = K.2 33 (8 * s + i))
    rw [btt_sh g0 g1 b0 b1]
    constructor
    · exact fun p => Or.inl p
    · rintro (p | ⟨j, j0, j1, j2⟩)
      · exact p
      · omega
theorem SR_f {F A : List Nat} {K' : mR} (h : SR K) (hK : fr F A K K') (c1 : chk [221] F = true) (c2 : chk [30, 33, 34] A = true) : SR K' := by
  unfold SR
  rw [fr1 hK 221 (chk_1 c1 (by decide)), fr2 hK 30 (chk_1 c2 (by decide)), fr2 hK 33 (chk_1 c2 (by decide)), fr2 hK 34 (chk_1 c2 (by decide))]
  exact h
/-- first the goals themselves -/
theorem circ1_k (h : SR K) : RP (whl kfb_ss_circling_2 (0, K)) (fun e => fr [] [38] K e ∧ ∀ s, 0 ≤ s → s < K.1 221 → ∀ b, 0 ≤ b → b < 18 → (btt (e.2 38 s) b ↔ EK K s b)) := by
  have n0 := h.1.1
  have n1 := h.1.2
  refine RP_whl (I := fun q : Int × mR => 0 ≤ q.1 ∧ q.1 ≤ 16 ∧ fr [] [38] K q.2 ∧ ∀ s, 0 ≤ s → s < q.1 → s < K.1 221 → ∀ b, 0 ≤ b → b < 18 → (btt (q.2.2 38 s) b ↔ EK K s b)) (fun q hq => ?_) ⟨(show (0 : Int) ≤ 0 by decide), (show (0 : Int) ≤ 16 by decide), fr_0, fun s s0 s1 => absurd (show s < 0 from s1) (by omega)⟩
  obtain ⟨i, L⟩ := q
  obtain ⟨q0, q1, q2, q3⟩ := hq
  have q0 : 0 ≤ i := q0
  have q1 : i ≤ 16 := q1
  have q2 : fr [] [38] K L := q2
  unfold kfb_ss_circling_2 kfl_ss_circling_33
  show RP (if L.1 221 ≤ i then some (Sum.inr L) else if L.2 26 i ≤ 0 then bnd (kf_ss_goalsOf i L) fun y27 => some (Sum.inl (cut (i + 1), mO L [] [(38, upI (L.2 38) i y27)])) else some (Sum.inl (cut (i + 1), mO L [] [(38, upI (L.2 38) i 0)]))) _
  rw [fr1 q2 221 rfl, fr2 q2 26 rfl]
  refine RP_ite (fun g => RP_some ⟨q2, fun s s0 s1 => q3 s s0 (by show s < i; omega) s1⟩) (fun g => ?_)
  -- a row is set
  have row : ∀ r, (∀ b, 0 ≤ b → b < 18 → (btt r b ↔ EK K i b)) → (0 ≤ i + 1 ∧ i + 1 ≤ 16 ∧ fr [] [38] K (mO L [] [(38, upI (L.2 38) i r)]) ∧ ∀ s, 0 ≤ s → s < i + 1 → s < K.1 221 → ∀ b, 0 ≤ b → b < 18 → (btt (upI (L.2 38) i r s) b ↔ EK K s b)) := by
    intro r hr
    refine ⟨by omega, by omega, fr_m q2 rfl rfl, fun s s0 s1 s2 b b0 b1 => ?_⟩
    by_cases e : s = i
    · rw [e, upI_s]
      exact hr b b0 b1
    · rw [upI_n e]
      exact q3 s s0 (by show s < i; omega) s2 b b0 b1
  rw [cut_i (by omega) (by omega)]
  refine RP_ite (fun g2 => ?_) (fun g2 => RP_some (row 0 (fun b b0 b1 => ⟨fun p => absurd p (btt_0 b0 b1), fun p => absurd p.2.2.1 g2⟩)))
  refine RP_bnd (goalsOf_k (SR_f h q2 rfl rfl) q0 (by rw [fr1 q2 221 rfl]; omega)) (fun r hr => RP_some (row r (fun b b0 b1 => ?_)))
  rw [hr b b0 b1, fr2 q2 34 rfl, fr2 q2 30 rfl, fr2 q2 33 rfl]
  exact ⟨fun p => ⟨q0, by omega, g2, p⟩, fun p => p.2.2.2⟩
/-- one state as what lies between -/
theorem circ2_k {k : Int} (n0 : 0 ≤ m.1 221) (n1 : m.1 221 ≤ 16) (k0 : 0 ≤ k) (k1 : k < m.1 221) : RP (whl (kfb_ss_circling_52 k) (0, m)) (fun e => fr [] [38] m e ∧ ∀ s, 0 ≤ s → s < m.1 221 → ∀ b, 0 ≤ b → b < 18 → (btt (e.2 38 s) b ↔ (btt (m.2 38 s) b ∨ (btt (m.2 38 s) k ∧ btt (m.2 38 k) b)))) := by
  refine RP_whl (I := fun q : Int × mR => 0 ≤ q.1 ∧ q.1 ≤ 16 ∧ fr [] [38] m q.2 ∧ (∀ s, 0 ≤ s → s < q.1 → s < m.1 221 → ∀ b, 0 ≤ b → b < 18 → (btt (q.2.2 38 s) b ↔ (btt (m.2 38 s) b ∨ (btt (m.2 38 s) k ∧ btt (m.2 38 k) b)))) ∧ ∀ s, q.1 ≤ s → q.2.2 38 s = m.2 38 s) (fun q hq => ?_) ⟨(show (0 : Int) ≤ 0 by decide), (show (0 : Int) ≤ 16 by decide), fr_0, fun s s0 s1 => absurd (show s < 0 from s1) (by omega), fun s _ => rfl⟩
  obtain ⟨i, L⟩ := q
  obtain ⟨q0, q1, q2, q3, q4⟩ := hq
  have q0 : 0 ≤ i := q0
  have q1 : i ≤ 16 := q1
  have q2 : fr [] [38] m L := q2
  have q4 : ∀ s, i ≤ s → L.2 38 s = m.2 38 s := q4
  unfold kfb_ss_circling_52 kfl_ss_circling_90
  show RP (if L.1 221 ≤ i then some (Sum.inr L) else if and32 (ushr32 (L.2 38 i) k) 1 = 0 then some (Sum.inl (cut (i + 1), mO L [] [(38, upI (L.2 38) i (or32 (L.2 38 i) 0))])) else some (Sum.inl (cut (i + 1), mO L [] [(38, upI (L.2 38) i (or32 (L.2 38 i) (L.2 38 k)))]))) _
  rw [fr1 q2 221 rfl]
  refine RP_ite (fun g => RP_some ⟨q2, fun s s0 s1 => q3 s s0 (by show s < i; omega) s1⟩) (fun g => ?_)
  have rk : ∀ b, 0 ≤ b → b < 18 → (btt (L.2 38 k) b ↔ btt (m.2 38 k) b) := by
    intro b b0 b1
    by_cases e : k < i
    · rw [q3 k k0 e k1 b b0 b1]
      constructor
      · rintro (p | ⟨-, p⟩) <;> exact p
      · exact fun p => Or.inl p
    · rw [q4 k (by omega)]
  have row : ∀ r, (∀ b, 0 ≤ b → b < 18 → (btt r b ↔ (btt (m.2 38 i) b ∨ (btt (m.2 38 i) k ∧ btt (m.2 38 k) b)))) → (0 ≤ i + 1 ∧ i + 1 ≤ 16 ∧ fr [] [38] m (mO L [] [(38, upI (L.2 38) i r)]) ∧ (∀ s, 0 ≤ s → s < i + 1 → s < m.1 221 → ∀ b, 0 ≤ b → b < 18 → (btt (upI (L.2 38) i r s) b ↔ (btt (m.2 38 s) b ∨ (btt (m.2 38 s) k ∧ btt (m.2 38 k) b)))) ∧ ∀ s, i + 1 ≤ s → upI (L.2 38) i r s = m.2 38 s) := by
    intro r hr
    refine ⟨by omega, by omega, fr_m q2 rfl rfl, fun s s0 s1 s2 b b0 b1 => ?_, fun s s1 => ?_⟩
    · by_cases e : s = i
      · rw [e, upI_s]
        exact hr b b0 b1
      · rw [upI_n e]
        exact q3 s s0 (by show s < i; omega) s2 b b0 b1
    · rw [upI_n (by omega)]
      exact q4 s (by omega)
  have ri := q4 i (by omega)
  rw [cut_i (by omega) (by omega), ri]
  refine RP_ite (fun g2 => RP_some (row _ (fun b b0 b1 => ?_))) (fun g2 => RP_some (row _ (fun b b0 b1 => ?_)))
  · rw [btt_or b0 (by omega)]
    constructor
    · rintro (p | p)
      · exact Or.inl p
      · exact absurd p (btt_0 b0 b1)
    · rintro (p | ⟨p, -⟩)
      · exact Or.inl p
      · exact absurd g2 p
  · rw [btt_or b0 (by omega), rk b b0 b1]
    constructor
    · rintro (p | p)
      · exact Or.inl p
      · exact Or.inr ⟨g2, p⟩
    · rintro (p | ⟨-, p⟩)
      · exact Or.inl p
      · exact Or.inr p
end CI2
