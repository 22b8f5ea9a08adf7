/-! ===== memory and wires of a table, side by side ===== -/
section MEW
variable {K M : mR} {t s : Int}
theorem sumW_b {f : Int → Int} {b : Int} : ∀ n : Nat, (∀ i : Nat, i < n → 0 ≤ f (b + i) ∧ f (b + i) ≤ 64) → 0 ≤ sumW f b n ∧ sumW f b n ≤ 64 * (n : Int) := by
  intro n
  induction n with
  | zero => intro _; exact ⟨Int.le_refl 0, by show (0 : Int) ≤ _; omega⟩
  | succ n ih =>
    intro h
    have h1 := ih (fun i hi => h i (by omega))
    have h2 := h n (by omega)
    show 0 ≤ sumW f b n + f (b + n) ∧ sumW f b n + f (b + n) ≤ _
    omega
theorem wires_k (t0 : 0 ≤ t) (hT : TK t K M) : RP (kf_tb_wires t K) (fun u => u = M.2 52 t ∧ 0 ≤ u ∧ u ≤ 256) := by
  obtain ⟨c1, c2, c3, c4, c5⟩ := hT
  have hb : ∀ n : Nat, (n : Int) ≤ M.2 51 t → 0 ≤ sumW (M.2 112) (4 * t) n ∧ sumW (M.2 112) (4 * t) n ≤ 64 * (n : Int) := fun n hn => sumW_b n (fun i hi => by
    obtain ⟨-, -, -, -, d1, d2, -⟩ := c4 i (by omega) (by omega)
    omega)
  unfold kf_tb_wires
  refine RP_bnd (P := fun u => u = M.2 52 t ∧ 0 ≤ u ∧ u ≤ 256) (RP_whl (I := fun p : Int × Int => 0 ≤ p.2 ∧ p.2 ≤ M.2 51 t ∧ p.1 = sumW (M.2 112) (4 * t) p.2.toNat) (fun p hp => ?_) ⟨Int.le_refl 0, c2, rfl⟩) (fun e he => RP_some he)
  obtain ⟨u, i⟩ := p
  obtain ⟨i0, i1, e⟩ := hp
  have i0 : 0 ≤ i := i0
  have i1 : i ≤ M.2 51 t := i1
  have e : u = sumW (M.2 112) (4 * t) i.toNat := e
  have hu := hb i.toNat (by omega)
  unfold kfb_tb_wires_4
  dsimp only
  rw [c1]
  refine RP_ite (fun g => RP_some ?_) (fun g => ?_)
  · have ei : i = M.2 51 t := by omega
    rw [ei] at e hu
    rw [← c5] at e
    exact ⟨e, by omega, by omega⟩
  · obtain ⟨-, -, -, d0, d1, d2, -⟩ := c4 i i0 (by omega)
    rw [d0, cut_i (show -2147483648 ≤ u + M.2 112 (4 * t + i) by omega) (by omega), cut_i (by omega) (by omega)]
    refine RP_some ⟨(by show 0 ≤ i + 1; omega), (by show i + 1 ≤ _; omega), ?_⟩
    show u + M.2 112 (4 * t + i) = sumW (M.2 112) (4 * t) (i + 1).toNat
    rw [show (i + 1).toNat = i.toNat + 1 by omega, e]
    show _ = sumW (M.2 112) (4 * t) i.toNat + M.2 112 (4 * t + (i.toNat : Int))
    rw [← i_nat i0]
theorem hashed_k (t0 : 0 ≤ t) (hT : TK t K M) (hE : TE t M) : RP (kf_tb_isHashed t K) (fun u => u = M.2 58 t ∧ (u = 0 ∨ u = 1)) := by
  obtain ⟨c1, c2, c3, c4, c5⟩ := hT
  unfold kf_tb_isHashed
  refine RP_bnd (P := sel (fun _ => M.2 58 t = 0) (fun _ => M.2 58 t = 1)) (RP_whl (I := fun i : Int => 0 ≤ i ∧ i ≤ M.2 51 t ∧ ∀ j, 0 ≤ j → j < i → M.2 113 (4 * t + j) = 312) (fun i hi => ?_) ⟨Int.le_refl 0, c2, fun j j0 j1 => by omega⟩) (RP_sl (fun _ h => RP_some ⟨h.symm, Or.inl rfl⟩) (fun _ h => RP_some ⟨h.symm, Or.inr rfl⟩))
  obtain ⟨i0, i1, hj⟩ := hi
  unfold kfb_tb_isHashed_2
  rw [c1]
  refine RP_ite (fun g => RP_some ?_) (fun g => ?_)
  · show M.2 58 t = 1
    rcases hE with ⟨e1, -⟩ | ⟨-, j, j0, j1, j2⟩
    · exact e1
    · exact absurd (hj j j0 (by omega)) j2
  · obtain ⟨-, -, -, -, -, -, d1, -⟩ := c4 i i0 (by omega)
    rw [d1, cut_i (show -2147483648 ≤ i + 1 by omega) (by omega)]
    refine RP_ite (fun h => RP_some ⟨(by show 0 ≤ i + 1; omega), (by show i + 1 ≤ _; omega), fun j j0 j1 => ?_⟩) (fun h => RP_some ?_)
    · have j1 : j < i + 1 := j1
      by_cases e : j = i
      · rw [e]; exact h
      · exact hj j j0 (by omega)
    · show M.2 58 t = 0
      rcases hE with ⟨-, e1⟩ | ⟨e1, -⟩
      · exact absurd (e1 i i0 (by omega)) h
      · exact e1
theorem pbits_s {a : Int} (hP : PA K M) (h25 : M.1 25 ≤ 16) (a0 : 0 ≤ a) (a1 : a < M.1 25) : RR (kf_ac_parameterBits a K) (rf_bitsOfParameters (M.2 46 a) a M) (fun u v => u = v ∧ 0 ≤ v ∧ v ≤ 256) := by
  obtain ⟨c1, c2, c3, c4, -⟩ := hP a a0 a1
  unfold kf_ac_parameterBits rf_bitsOfParameters
  rw [show cut (4 * a) = 4 * a from cut_i (by omega) (by omega)]
  refine RR_bnd (P := fun u v => u = v ∧ 0 ≤ v ∧ v ≤ 256) (RR_whl (I := fun (p q : Int × Int) => p.1 = q.1 ∧ q.2 = 4 * a + p.2 ∧ 0 ≤ p.2 ∧ p.2 ≤ M.2 46 a ∧ 0 ≤ q.1 ∧ q.1 ≤ 64 * p.2) (fun p q hI => ?_) ⟨rfl, (Int.add_zero _).symm, Int.le_refl 0, c2, Int.le_refl 0, by show (0 : Int) ≤ 64 * 0; omega⟩) (fun u v h => RR_some h)
  obtain ⟨u, i⟩ := p
  obtain ⟨v, j⟩ := q
  obtain ⟨e1, e2, i0, i1, v0, v1⟩ := hI
  have e1 : u = v := e1
  have e2 : j = 4 * a + i := e2
  subst e1 e2
  have i0 : 0 ≤ i := i0
  have i1 : i ≤ M.2 46 a := i1
  have v0 : 0 ≤ u := v0
  have v1 : u ≤ 64 * i := v1
  unfold kfb_ac_parameterBits_4 rfb_bitsOfParameters_7
  dsimp only
  rw [c1, show cut (cut (4 * a) + M.2 46 a) = 4 * a + M.2 46 a by rw [cut_i (show -2147483648 ≤ 4 * a by omega) (by omega), cut_i (by omega) (by omega)]]
  refine RR_ii (by omega) (fun g1 g2 => RR_some ⟨rfl, by show 0 ≤ u; omega, by show u ≤ 256; omega⟩) (fun g1 g2 => ?_)
  obtain ⟨d1, d2, d3, -⟩ := c4 i i0 (by omega)
  rw [show cut (cut (a * 4) + i) = 4 * a + i by rw [cut_i (show -2147483648 ≤ a * 4 by omega) (by omega), cut_i (by omega) (by omega)]; omega, d1, cut_i (show -2147483648 ≤ u + M.2 49 (4 * a + i) by omega) (by omega), cut_i (show -2147483648 ≤ i + 1 by omega) (by omega), cut_i (show -2147483648 ≤ 4 * a + i + 1 by omega) (by omega)]
  exact RR_some ⟨rfl, (by show 4 * a + i + 1 = 4 * a + (i + 1); omega), (by show 0 ≤ i + 1; omega), (by show i + 1 ≤ _; omega), (by show 0 ≤ u + _; omega), (by show u + _ ≤ 64 * (i + 1); omega)⟩
theorem max_k {a b : Int} : kf_Math_max a b K = some (if a < b then b else a) := by
  unfold kf_Math_max kfl_Math_max_10
  by_cases h : a < b
  · rw [if_pos h, if_pos h]
  · rw [if_neg h, if_neg h]
theorem memo_s (h : LYP K M) (s0 : 0 ≤ s) (s1 : s < M.1 27) (hk : M.2 60 s = 2) (ht : t = M.2 63 s) (t0 : 0 ≤ t) (t1 : t < M.1 26) : RR (kf_tb_memory t K) (rf_memoryOf s M) (fun u v => u = v ∧ 0 ≤ v ∧ v ≤ 100000) := by
  have h26 := h.2.2.1
  have h25 := h.2.2.2.2.2.2.1.2
  have hPA := h.2.2.2.2.2.2.2
  have hB := h.2.2.2.1 t t0 t1
  obtain ⟨hTK, hTL, hTE, -, ⟨r1, r2, r3⟩, ⟨w1, w2, w3⟩, st1, st2, st3⟩ := hB
  obtain ⟨l1, l2, l3, l4⟩ := hTL
  unfold kf_tb_memory rf_memoryOf
  rw [if_pos hk, ← ht, show cut (8 * t) = 8 * t from cut_i (by omega) (by omega)]
  refine RR_bnd (P := fun u v => u = v ∧ 0 ≤ v ∧ v ≤ 256) (RR_whl (I := fun (p q : Int × Int) => p.1 = q.1 ∧ q.2 = 8 * t + p.2 ∧ 0 ≤ p.2 ∧ 0 ≤ q.1 ∧ q.1 ≤ 256) (fun p q hI => ?_) ⟨rfl, (Int.add_zero _).symm, Int.le_refl 0, Int.le_refl 0, by show (0 : Int) ≤ 256; decide⟩) (fun u v huv => ?_)
  · obtain ⟨u, i⟩ := p
    obtain ⟨v, j⟩ := q
    obtain ⟨e1, e2, i0, v0, v1⟩ := hI
    have e1 : u = v := e1
    have e2 : j = 8 * t + i := e2
    subst e1 e2
    have i0 : 0 ≤ i := i0
    have v0 : 0 ≤ u := v0
    have v1 : u ≤ 256 := v1
    unfold kfb_tb_memory_4 rfb_memoryOf_27
    dsimp only
    rw [l1, show cut (cut (8 * t) + M.2 53 t) = 8 * t + M.2 53 t by rw [cut_i (show -2147483648 ≤ 8 * t by omega) (by omega), cut_i (by omega) (by omega)]]
    refine RR_ii (by omega) (fun g1 g2 => RR_some ⟨rfl, v0, v1⟩) (fun g1 g2 => ?_)
    obtain ⟨d1, d2, d3⟩ := l4 i i0 (by omega)
    rw [d1]
    refine RR_bnd (pbits_s hPA h25 d2 d3) (fun a b hab => ?_)
    obtain ⟨rfl, b0, b1⟩ := hab
    unfold rfl_memoryOf_83
    rw [max_k, bnd_some, cut_i (show -2147483648 ≤ i + 1 by omega) (by omega), cut_i (show -2147483648 ≤ 8 * t + i + 1 by omega) (by omega)]
    by_cases g : u < a
    · rw [if_pos g, if_neg (by omega)]
      exact RR_some ⟨rfl, (by show 8 * t + i + 1 = 8 * t + (i + 1); omega), (by show 0 ≤ i + 1; omega), b0, b1⟩
    · rw [if_neg g, if_pos (by omega)]
      exact RR_some ⟨rfl, (by show 8 * t + i + 1 = 8 * t + (i + 1); omega), (by show 0 ≤ i + 1; omega), v0, v1⟩
  · obtain ⟨rfl, v0, v1⟩ := huv
    unfold kfl_tb_memory_33 rfl_memoryOf_90
    refine RR_l (hashed_k t0 hTK hTE) (fun q hq => ?_)
    obtain ⟨q1, q2⟩ := hq
    have hw : RP (kf_tb_wires t K) (fun z => z = M.2 52 t ∧ 0 ≤ z ∧ z ≤ 256) := wires_k t0 hTK
    rw [← q1]
    rcases q2 with q2 | q2
    · rw [if_pos q2, if_pos q2]
      unfold kfl_tb_memory_63 rfl_memoryOf_128 rfl_memoryOf_147 kfl_tb_memory_82
      rw [if_pos q2, ← q1, if_pos q2, r1]
      refine RR_l hw (fun z hz => ?_)
      obtain ⟨rfl, z0, z1⟩ := hz
      have b1 : 0 ≤ M.2 54 t * (2 * M.2 52 t + u + 8) ∧ M.2 54 t * (2 * M.2 52 t + u + 8) ≤ 32 * 776 := ⟨Int.mul_nonneg (by omega) (by omega), Int.mul_le_mul (by omega) (by omega) (by omega) (by omega)⟩
      rw [cut_i (show -2147483648 ≤ 2 * M.2 52 t by omega) (by omega), cut_i (show -2147483648 ≤ 2 * M.2 52 t + u by omega) (by omega), cut_i (show -2147483648 ≤ 2 * M.2 52 t + u + 8 by omega) (by omega), cut_i (show -2147483648 ≤ M.2 54 t * (2 * M.2 52 t + u + 8) by omega) (by omega), cutl_i (show -9223372036854775808 ≤ M.2 54 t * (2 * M.2 52 t + u + 8) by omega) (by omega)]
      exact RR_some ⟨rfl, b1.1, by omega⟩
    · rw [if_neg (by omega), if_neg (by omega)]
      unfold kfl_tb_memory_63 rfl_memoryOf_128 rfl_memoryOf_147 kfl_tb_memory_82
      rw [if_neg (by omega), ← q1, if_neg (by omega), r1, w1, st1]
      refine RR_l hw (fun z hz => ?_)
      obtain ⟨rfl, z0, z1⟩ := hz
      have b0 : 0 ≤ M.2 54 t * M.2 55 t ∧ M.2 54 t * M.2 55 t ≤ 32 * 4 := ⟨Int.mul_nonneg (by omega) (by omega), Int.mul_le_mul (by omega) (by omega) (by omega) (by omega)⟩
      have b1 : 0 ≤ (M.2 54 t * M.2 55 t + M.2 56 t) * (1 * M.2 52 t + u + 8) ∧ (M.2 54 t * M.2 55 t + M.2 56 t) * (1 * M.2 52 t + u + 8) ≤ 136 * 520 := ⟨Int.mul_nonneg (by omega) (by omega), Int.mul_le_mul (by omega) (by omega) (by omega) (by omega)⟩
      rw [cut_i (show -2147483648 ≤ M.2 54 t * M.2 55 t by omega) (by omega), cut_i (show -2147483648 ≤ M.2 54 t * M.2 55 t + M.2 56 t by omega) (by omega), cut_i (show -2147483648 ≤ 1 * M.2 52 t by omega) (by omega), cut_i (show -2147483648 ≤ 1 * M.2 52 t + u by omega) (by omega), cut_i (show -2147483648 ≤ 1 * M.2 52 t + u + 8 by omega) (by omega), show M.2 52 t + u = 1 * M.2 52 t + u by omega, cut_i (show -2147483648 ≤ 1 * M.2 52 t + u by omega) (by omega), cut_i (show -2147483648 ≤ 1 * M.2 52 t + u + 8 by omega) (by omega), cut_i (show -2147483648 ≤ (M.2 54 t * M.2 55 t + M.2 56 t) * (1 * M.2 52 t + u + 8) by omega) (by omega), cutl_i (show -9223372036854775808 ≤ (M.2 54 t * M.2 55 t + M.2 56 t) * (1 * M.2 52 t + u + 8) by omega) (by omega)]
      exact RR_some ⟨rfl, b1.1, by omega⟩
theorem pbits_k {a : Int} (hP : PA K M) (h25 : M.1 25 ≤ 16) (a0 : 0 ≤ a) (a1 : a < M.1 25) : RP (kf_ac_parameterBits a K) (fun u => 0 ≤ u ∧ u ≤ 256) := by
  obtain ⟨c1, c2, c3, c4, -⟩ := hP a a0 a1
  unfold kf_ac_parameterBits
  refine RP_bnd (P := fun u => 0 ≤ u ∧ u ≤ 256) (RP_whl (I := fun p : Int × Int => 0 ≤ p.2 ∧ p.2 ≤ M.2 46 a ∧ 0 ≤ p.1 ∧ p.1 ≤ 64 * p.2) (fun p hI => ?_) ⟨Int.le_refl 0, c2, Int.le_refl 0, by show (0 : Int) ≤ 64 * 0; omega⟩) (fun u h => RP_some h)
  obtain ⟨u, i⟩ := p
  obtain ⟨i0, i1, v0, v1⟩ := hI
  have i0 : 0 ≤ i := i0
  have i1 : i ≤ M.2 46 a := i1
  have v0 : 0 ≤ u := v0
  have v1 : u ≤ 64 * i := v1
  unfold kfb_ac_parameterBits_4
  dsimp only
  rw [c1]
  refine RP_ite (fun g => RP_some ⟨by show 0 ≤ u; omega, by show u ≤ 256; omega⟩) (fun g => ?_)
  obtain ⟨d1, d2, d3, -⟩ := c4 i i0 (by omega)
  rw [show cut (cut (a * 4) + i) = 4 * a + i by rw [cut_i (show -2147483648 ≤ a * 4 by omega) (by omega), cut_i (by omega) (by omega)]; omega, d1, cut_i (show -2147483648 ≤ u + M.2 49 (4 * a + i) by omega) (by omega), cut_i (show -2147483648 ≤ i + 1 by omega) (by omega)]
  exact RP_some ⟨(by show 0 ≤ i + 1; omega), (by show i + 1 ≤ _; omega), (by show 0 ≤ u + _; omega), (by show u + _ ≤ 64 * (i + 1); omega)⟩
theorem memo_k (h : LYP K M) (t0 : 0 ≤ t) (t1 : t < M.1 26) : RP (kf_tb_memory t K) (fun u => 0 ≤ u ∧ u ≤ 100000) := by
  have h26 := h.2.2.1
  have h25 := h.2.2.2.2.2.2.1.2
  have hPA := h.2.2.2.2.2.2.2
  have hB := h.2.2.2.1 t t0 t1
  obtain ⟨hTK, hTL, hTE, -, ⟨r1, r2, r3⟩, ⟨w1, w2, w3⟩, st1, st2, st3⟩ := hB
  obtain ⟨l1, l2, l3, l4⟩ := hTL
  unfold kf_tb_memory
  refine RP_bnd (P := fun u => 0 ≤ u ∧ u ≤ 256) (RP_whl (I := fun p : Int × Int => 0 ≤ p.2 ∧ 0 ≤ p.1 ∧ p.1 ≤ 256) (fun p hI => ?_) ⟨Int.le_refl 0, Int.le_refl 0, by show (0 : Int) ≤ 256; decide⟩) (fun u huv => ?_)
  · obtain ⟨u, i⟩ := p
    obtain ⟨i0, v0, v1⟩ := hI
    have i0 : 0 ≤ i := i0
    have v0 : 0 ≤ u := v0
    have v1 : u ≤ 256 := v1
    unfold kfb_tb_memory_4
    dsimp only
    rw [l1]
    refine RP_ite (fun g => RP_some ⟨v0, v1⟩) (fun g1 => ?_)
    obtain ⟨d1, d2, d3⟩ := l4 i i0 (by omega)
    rw [d1]
    refine RP_bnd (pbits_k hPA h25 d2 d3) (fun a hab => ?_)
    rw [max_k, bnd_some, cut_i (show -2147483648 ≤ i + 1 by omega) (by omega)]
    by_cases g : u < a
    · rw [if_pos g]
      exact RP_some ⟨(by show 0 ≤ i + 1; omega), hab.1, hab.2⟩
    · rw [if_neg g]
      exact RP_some ⟨(by show 0 ≤ i + 1; omega), v0, v1⟩
  · obtain ⟨v0, v1⟩ := huv
    unfold kfl_tb_memory_33
    refine RP_bnd (hashed_k t0 hTK hTE) (fun q hq => ?_)
    obtain ⟨q1, q2⟩ := hq
    have b0 : 0 ≤ M.2 54 t * M.2 55 t ∧ M.2 54 t * M.2 55 t ≤ 32 * 4 := ⟨Int.mul_nonneg (by omega) (by omega), Int.mul_le_mul (by omega) (by omega) (by omega) (by omega)⟩
    rcases q2 with q2 | q2
    · rw [if_pos q2]
      unfold kfl_tb_memory_63 kfl_tb_memory_82
      rw [if_pos q2, r1]
      refine RP_bnd (wires_k t0 hTK) (fun z hz => ?_)
      obtain ⟨-, z0, z1⟩ := hz
      have b1 : 0 ≤ M.2 54 t * (2 * z + u + 8) ∧ M.2 54 t * (2 * z + u + 8) ≤ 32 * 776 := ⟨Int.mul_nonneg (by omega) (by omega), Int.mul_le_mul (by omega) (by omega) (by omega) (by omega)⟩
      rw [cut_i (show -2147483648 ≤ 2 * z by omega) (by omega), cut_i (show -2147483648 ≤ 2 * z + u by omega) (by omega), cut_i (show -2147483648 ≤ 2 * z + u + 8 by omega) (by omega), cut_i (show -2147483648 ≤ M.2 54 t * (2 * z + u + 8) by omega) (by omega)]
      exact RP_some ⟨b1.1, by omega⟩
    · rw [if_neg (by omega)]
      unfold kfl_tb_memory_63 kfl_tb_memory_82
      rw [if_neg (by omega), r1, w1, st1]
      refine RP_bnd (wires_k t0 hTK) (fun z hz => ?_)
      obtain ⟨-, z0, z1⟩ := hz
      have b1 : 0 ≤ (M.2 54 t * M.2 55 t + M.2 56 t) * (z + u + 8) ∧ (M.2 54 t * M.2 55 t + M.2 56 t) * (z + u + 8) ≤ 136 * 520 := ⟨Int.mul_nonneg (by omega) (by omega), Int.mul_le_mul (by omega) (by omega) (by omega) (by omega)⟩
      rw [cut_i (show -2147483648 ≤ M.2 54 t * M.2 55 t by omega) (by omega), cut_i (show -2147483648 ≤ M.2 54 t * M.2 55 t + M.2 56 t by omega) (by omega), cut_i (show -2147483648 ≤ z + u by omega) (by omega), cut_i (show -2147483648 ≤ z + u + 8 by omega) (by omega), cut_i (show -2147483648 ≤ (M.2 54 t * M.2 55 t + M.2 56 t) * (z + u + 8) by omega) (by omega)]
      exact RP_some ⟨b1.1, by omega⟩
end MEW
