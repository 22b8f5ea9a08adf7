/-! ===== lay, the whole of it ===== -/
section LYW
variable {K M : mR} {n me wi : Int}
theorem fill63_k : RP (kf_Arrays_fill0_b63 0 K) (fun z => fr [] [63] K z.2 ∧ ∀ i, 0 ≤ i → i < 12 → z.2.2 63 i = 0) := by
  unfold kf_Arrays_fill0_b63
  refine RP_bnd (P := fun e : mR => fr [] [63] K e ∧ ∀ i, 0 ≤ i → i < 12 → e.2 63 i = 0) (RP_whl (I := fun s : Int × mR => 0 ≤ s.1 ∧ s.1 ≤ 12 ∧ fr [] [63] K s.2 ∧ ∀ i, 0 ≤ i → i < s.1 → s.2.2 63 i = 0) (fun s hs => ?_) ⟨Int.le_refl 0, (show (0 : Int) ≤ 12 by decide), fr_0, fun i i0 i1 => absurd (show i < 0 from i1) (by omega)⟩) (fun e he => RP_some he)
  obtain ⟨k, m⟩ := s
  obtain ⟨a0, a1, a2, a3⟩ := hs
  have a0 : 0 ≤ k := a0
  have a1 : k ≤ 12 := a1
  have a3 : ∀ i, 0 ≤ i → i < k → m.2 63 i = 0 := a3
  unfold kfb_Arrays_fill0_b63_5
  dsimp only
  refine RP_ite (fun g => RP_some ⟨a2, fun i i0 i1 => a3 i i0 (by omega)⟩) (fun g => ?_)
  rw [cut_i (by omega) (by omega)]
  refine RP_some ⟨(by show 0 ≤ k + 1; omega), (by show k + 1 ≤ 12; omega), fr_m a2 rfl rfl, fun i i0 i1 => ?_⟩
  show upI (m.2 63) k 0 i = 0
  by_cases e : i = k
  · rw [e, upI_s]
  · rw [upI_n e]
    have i1 : i < k + 1 := i1
    exact a3 i i0 (by omega)
theorem fill64_k : RP (kf_Arrays_fill0_b64 0 K) (fun z => fr [] [64] K z.2 ∧ ∀ i, 0 ≤ i → i < 12 → z.2.2 64 i = 0) := by
  unfold kf_Arrays_fill0_b64
  refine RP_bnd (P := fun e : mR => fr [] [64] K e ∧ ∀ i, 0 ≤ i → i < 12 → e.2 64 i = 0) (RP_whl (I := fun s : Int × mR => 0 ≤ s.1 ∧ s.1 ≤ 12 ∧ fr [] [64] K s.2 ∧ ∀ i, 0 ≤ i → i < s.1 → s.2.2 64 i = 0) (fun s hs => ?_) ⟨Int.le_refl 0, (show (0 : Int) ≤ 12 by decide), fr_0, fun i i0 i1 => absurd (show i < 0 from i1) (by omega)⟩) (fun e he => RP_some he)
  obtain ⟨k, m⟩ := s
  obtain ⟨a0, a1, a2, a3⟩ := hs
  have a0 : 0 ≤ k := a0
  have a1 : k ≤ 12 := a1
  have a3 : ∀ i, 0 ≤ i → i < k → m.2 64 i = 0 := a3
  unfold kfb_Arrays_fill0_b64_5
  dsimp only
  refine RP_ite (fun g => RP_some ⟨a2, fun i i0 i1 => a3 i i0 (by omega)⟩) (fun g => ?_)
  rw [cut_i (by omega) (by omega)]
  refine RP_some ⟨(by show 0 ≤ k + 1; omega), (by show k + 1 ≤ 12; omega), fr_m a2 rfl rfl, fun i i0 i1 => ?_⟩
  show upI (m.2 64) k 0 i = 0
  by_cases e : i = k
  · rw [e, upI_s]
  · rw [upI_n e]
    have i1 : i < k + 1 := i1
    exact a3 i i0 (by omega)
theorem fill65_k : RP (kf_Arrays_fill0_b65 0 K) (fun z => fr [] [65] K z.2 ∧ ∀ i, 0 ≤ i → i < 12 → z.2.2 65 i = 0) := by
  unfold kf_Arrays_fill0_b65
  refine RP_bnd (P := fun e : mR => fr [] [65] K e ∧ ∀ i, 0 ≤ i → i < 12 → e.2 65 i = 0) (RP_whl (I := fun s : Int × mR => 0 ≤ s.1 ∧ s.1 ≤ 12 ∧ fr [] [65] K s.2 ∧ ∀ i, 0 ≤ i → i < s.1 → s.2.2 65 i = 0) (fun s hs => ?_) ⟨Int.le_refl 0, (show (0 : Int) ≤ 12 by decide), fr_0, fun i i0 i1 => absurd (show i < 0 from i1) (by omega)⟩) (fun e he => RP_some he)
  obtain ⟨k, m⟩ := s
  obtain ⟨a0, a1, a2, a3⟩ := hs
  have a0 : 0 ≤ k := a0
  have a1 : k ≤ 12 := a1
  have a3 : ∀ i, 0 ≤ i → i < k → m.2 65 i = 0 := a3
  unfold kfb_Arrays_fill0_b65_5
  dsimp only
  refine RP_ite (fun g => RP_some ⟨a2, fun i i0 i1 => a3 i i0 (by omega)⟩) (fun g => ?_)
  rw [cut_i (by omega) (by omega)]
  refine RP_some ⟨(by show 0 ≤ k + 1; omega), (by show k + 1 ≤ 12; omega), fr_m a2 rfl rfl, fun i i0 i1 => ?_⟩
  show upI (m.2 65) k 0 i = 0
  by_cases e : i = k
  · rw [e, upI_s]
  · rw [upI_n e]
    have i1 : i < k + 1 := i1
    exact a3 i i0 (by omega)
theorem lay67_r {a b c : Int} : RP (whl (rfb_lay_67 a b c) (0, M)) (fun e => fr [] [132, 133, 134] M e ∧ ∀ i, 0 ≤ i → i < 12 → e.2 132 i = 0 ∧ e.2 133 i = 0 ∧ e.2 134 i = 0) := by
  refine RP_whl (I := fun s : Int × mR => 0 ≤ s.1 ∧ s.1 ≤ 12 ∧ fr [] [132, 133, 134] M s.2 ∧ ∀ i, 0 ≤ i → i < s.1 → s.2.2 132 i = 0 ∧ s.2.2 133 i = 0 ∧ s.2.2 134 i = 0) (fun s hs => ?_) ⟨Int.le_refl 0, (show (0 : Int) ≤ 12 by decide), fr_0, fun i i0 i1 => absurd (show i < 0 from i1) (by omega)⟩
  obtain ⟨k, m⟩ := s
  obtain ⟨a0, a1, a2, a3⟩ := hs
  have a0 : 0 ≤ k := a0
  have a1 : k ≤ 12 := a1
  have a3 : ∀ i, 0 ≤ i → i < k → m.2 132 i = 0 ∧ m.2 133 i = 0 ∧ m.2 134 i = 0 := a3
  unfold rfb_lay_67
  dsimp only
  refine RP_ite (fun g => RP_some ⟨a2, fun i i0 i1 => a3 i i0 (by omega)⟩) (fun g => ?_)
  rw [cut_i (by omega) (by omega)]
  refine RP_some ⟨(by show 0 ≤ k + 1; omega), (by show k + 1 ≤ 12; omega), fr_m a2 rfl rfl, fun i i0 i1 => ?_⟩
  show upI (m.2 132) k 0 i = 0 ∧ upI (m.2 133) k 0 i = 0 ∧ upI (m.2 134) k 0 i = 0
  by_cases e : i = k
  · rw [e, upI_s, upI_s, upI_s]
    exact ⟨rfl, rfl, rfl⟩
  · rw [upI_n e, upI_n e, upI_n e]
    have i1 : i < k + 1 := i1
    exact a3 i i0 (by omega)
def HME (K M : mR) : Prop := ∀ i, 0 ≤ i → i < M.1 27 → K.2 59 i = M.2 131 i ∧ 0 ≤ M.2 131 i ∧ M.2 131 i < 12
def LYQ (K M : mR) (y : Int × mR) (z : Int × mR) : Prop := (0 ≤ y.1 ∧ fr [] [59, 60, 61, 62, 63, 64, 65] K y.2 ∧ fr [1, 129, 130] [131, 132, 133, 134, 135, 136, 137] M z.2 ∧ z.2.1 1 = 3 ∧ z.2.1 130 = y.1) ∨ (y.1 = -1 ∧ y.2.1 226 = z.1 ∧ z.1 = z.2.1 129 ∧ 1 ≤ z.1 ∧ z.1 ≤ 12 ∧ fr [226] [59, 60, 61, 62, 63, 64, 65] K y.2 ∧ fr [1, 128, 129, 130] [131, 132, 133, 134, 135, 136, 137] M z.2 ∧ z.2.1 1 = 0 ∧ z.2.1 128 = 1 ∧ z.2.1 130 = -1 ∧ SGR y.2 z.2 ∧ HME y.2 z.2)
theorem lay43_s (h : LYP K M) (n1 : n ≤ 12) (me0 : 0 ≤ me ∧ me ≤ 2147483647) (wi0 : 0 ≤ wi ∧ wi ≤ 2147483647) : RR (kf_sp_settle n me wi K) (rfl_lay_43 n me wi 0 M) (LYQ K M) := by
  unfold kf_sp_settle rfl_lay_43
  rw [if_pos (Int.le_refl 0)]
  refine RR_l fill63_k (fun y1 h1 => RR_l fill64_k (fun y2 h2 => RR_l fill65_k (fun y3 h3 => ?_)))
  have fK : fr [] [59, 60, 61, 62, 63, 64, 65] K y3.2 := fr_s h3.1 (fr_s h2.1 (fr_s h1.1 fr_0 rfl rfl) rfl rfl) rfl rfl
  have eM : ∃ M0, M0 = mO M [(1, 0), (130, (-1))] [] := ⟨_, rfl⟩
  obtain ⟨M0, eM⟩ := eM
  have fM0 : fr [1, 130] [] M M0 := by rw [eM]; exact fr_m fr_0 rfl rfl
  have m1 : M0.1 1 = 0 := by rw [eM]; rfl
  have m130 : M0.1 130 = -1 := by rw [eM]; rfl
  rw [← eM]
  clear eM
  have hL0 : LYP K M0 := LYP_f h (fr_0 : fr [] [] K K) fM0 rfl rfl rfl rfl
  refine RR_r (all_r hL0) (fun z1 g1 => ?_)
  obtain ⟨f01, hD⟩ := g1
  have hL1 : LYP K z1.2 := LYP_f hL0 (fr_0 : fr [] [] K K) f01 rfl rfl rfl rfl
  have e27 : z1.2.1 27 = M0.1 27 := fr1 f01 27 rfl
  unfold rfl_lay_64
  refine RR_r lay67_r (fun e he => ?_)
  unfold rfl_lay_104
  have fM3 : fr [129] [131, 132, 133, 134] z1.2 (mO e [(129, 1)] []) := fr_m (fr_s he.1 fr_0 rfl rfl) rfl rfl
  have hI : stI me wi K z1.2 (1, 0, y3.2) (0, mO e [(129, 1)] []) := by
    refine ⟨rfl, Int.le_refl 0, fK, fM3, fun s s0 s1 => absurd (show s < 0 from s1) (by omega), fun i i0 i1 => absurd (show i < 0 from i1) (by omega), fun i i0 i1 => absurd (show i < 0 from i1) (by omega), fun g g0 g1 => ?_, rfl, (show (1 : Int) ≤ 1 by decide), (show (1 : Int) ≤ 12 by decide)⟩
    obtain ⟨b1, b2, b3⟩ := he.2 g g0 g1
    show y3.2.2 63 g = e.2 132 g ∧ y3.2.2 64 g = e.2 133 g ∧ y3.2.2 65 g = e.2 134 g ∧ (0 ≤ e.2 132 g ∧ e.2 132 g ≤ 8) ∧ (0 ≤ e.2 133 g ∧ e.2 133 g ≤ 2147483647) ∧ (0 ≤ e.2 134 g ∧ e.2 134 g ≤ 2147483647)
    rw [b1, b2, b3, h3.2 g g0 g1, fr2 h3.1 64 rfl, h2.2 g g0 g1, fr2 h3.1 63 rfl, fr2 h2.1 63 rfl, h1.2 g g0 g1]
    decide
  refine RR_bnd (RR_whl (I := stI me wi K z1.2) (fun p q hI => settle1_s hL1 f01 (fun s s0 s1 => hD s s0 (by omega)) n1 me0 wi0 hI) hI) (fun u v huv => ?_)
  rcases huv with ⟨s, K', M', rfl, rfl, s0, fK', fM'⟩ | ⟨a, K', M', rfl, rfl, fK', fM', ea, a1, a2, hR, hH⟩
  · show RR (some (s, K')) (rfl_lay_139 s M') _
    unfold rfl_lay_139
    exact RR_some (Or.inl ⟨s0, fK', fr_m (fr_s fM' (fr_s f01 (fr_s fM0 fr_0 rfl rfl) rfl rfl) rfl rfl) rfl rfl, rfl, rfl⟩)
  · show RR (kfl_sp_settle_199 a K') (rfl_lay_236 M') _
    unfold kfl_sp_settle_199 rfl_lay_236
    have fMM : fr [1, 128, 129, 130] [131, 132, 133, 134, 135, 136, 137] M M' := fr_s fM' (fr_s f01 (fr_s fM0 fr_0 rfl rfl) rfl rfl) rfl rfl
    refine RR_some (Or.inr ⟨rfl, ea, rfl, by show 1 ≤ M'.1 129; omega, by show M'.1 129 ≤ 12; omega, fr_m (fr_s fK' fr_0 rfl rfl) rfl rfl, fr_m fMM rfl rfl, ?_, rfl, ?_, hR, ?_⟩)
    · show M'.1 1 = 0
      rw [fr1 fM' 1 rfl, fr1 f01 1 rfl]
      exact m1
    · show M'.1 130 = -1
      rw [fr1 fM' 130 rfl, fr1 f01 130 rfl]
      exact m130
    · intro i i0 i1
      have i1 : i < M'.1 27 := i1
      rw [fr1 fM' 27 rfl] at i1
      exact hH i i0 i1
/-- what lay() leaves in both -/
def LYR (K M : mR) (y : Int × Int × mR) (z : Int × mR) : Prop := (y.1 = 0 ∧ z.2.1 1 = 0 ∧ y.2.1 = z.1 ∧ y.2.2.1 226 = z.1 ∧ z.1 = z.2.1 129 ∧ 1 ≤ z.1 ∧ z.1 ≤ 12 ∧ z.2.1 128 = 1 ∧ M.1 127 = 1 ∧ M.1 128 = 0 ∧ y.2.2.1 202 = -1 ∧ z.2.1 130 = -1 ∧ fr [202, 226] [59, 60, 61, 62, 63, 64, 65] K y.2.2 ∧ fr [1, 128, 129, 130] [131, 132, 133, 134, 135, 136, 137] M z.2 ∧ SGR y.2.2 z.2 ∧ HME y.2.2 z.2) ∨ (y.1 = 2 ∧ z.2.1 1 = 1 ∧ y.2.2 = K ∧ fr [1] [] M z.2) ∨ (y.1 = 1 ∧ z.2.1 1 = 2 ∧ y.2.2 = K ∧ fr [1] [] M z.2) ∨ (y.1 = 3 ∧ z.2.1 1 = 3 ∧ M.1 127 = 1 ∧ M.1 128 = 0 ∧ y.2.2.1 202 = z.2.1 130 ∧ fr [202] [59, 60, 61, 62, 63, 64, 65] K y.2.2 ∧ fr [1, 129, 130] [131, 132, 133, 134, 135, 136, 137] M z.2)
theorem lay_s {a b c : Int} (hb : R32 b) (hc : R32 c) (h1 : K.1 201 = M.1 127) (h2 : M.1 127 = 0 ∨ M.1 127 = 1) (h3 : M.1 128 = 0 ∨ M.1 128 = 1) (h4 : M.1 127 = 1 → (K.1 226 ≤ 0 ↔ M.1 128 = 0)) (h5 : M.1 127 = 1 → LYP K M) : RR (kf_pw_lay a b c K) (rf_lay a b c M) (LYR K M) := by
  obtain ⟨hb1, hb2⟩ := hb
  obtain ⟨hc1, hc2⟩ := hc
  unfold kf_pw_lay rf_lay
  have l15 : rfl_lay_15 a b c M = some (0, mO M [(1, 1)] []) := by
    unfold rfl_lay_15 rfl_lay_43
    rw [if_neg (by decide)]
  have l38 : rfl_lay_38 a b c M = some (0, mO M [(1, 2)] []) := by
    unfold rfl_lay_38 rfl_lay_43
    rw [if_neg (by decide)]
  have st : RR (kfl_pw_lay_20 K) (rfl_lay_15 a b c M) (LYR K M) := by
    rw [l15]
    exact RR_some (Or.inr (Or.inl ⟨rfl, rfl, rfl, fr_m fr_0 rfl rfl⟩))
  have ar : RR (kfl_pw_lay_49 K) (rfl_lay_38 a b c M) (LYR K M) := by
    rw [l38]
    exact RR_some (Or.inr (Or.inr (Or.inl ⟨rfl, rfl, rfl, fr_m fr_0 rfl rfl⟩)))
  rw [h1]
  refine RR_ii Iff.rfl (fun _ _ => st) (fun g1 _ => ?_)
  have e1 : M.1 127 = 1 := by omega
  refine RR_ii (h4 e1) (fun g2 g3 => ?_) (fun _ _ => st)
  refine RR_ii Iff.rfl (fun _ _ => ar) (fun q1 _ => ?_)
  refine RR_ii Iff.rfl (fun _ _ => ar) (fun q2 _ => ?_)
  refine RR_ii Iff.rfl (fun _ _ => ar) (fun q3 _ => ?_)
  refine RR_ii Iff.rfl (fun q4 _ => ?_) (fun _ _ => ar)
  have hS := lay43_s (n := a) (me := b) (wi := c) (h5 e1) (by omega) ⟨by omega, by omega⟩ ⟨by omega, by omega⟩
  intro u v hu hv
  cases hk : kf_sp_settle a b c K with
  | none => rw [hk] at hu; cases hu
  | some y =>
    rw [hk, bnd_some] at hu
    rcases hS y v hk hv with ⟨r1, r2, r3, r4, r5⟩ | ⟨r1, r2, r3, r4, r5, r6, r7, r8, r9, r10, r11, r12⟩
    · rw [if_neg (by omega)] at hu
      cases hu
      exact Or.inr (Or.inr (Or.inr ⟨rfl, r4, e1, g3, r5.symm, fr_m (fr_s r2 fr_0 rfl rfl) rfl rfl, r3⟩))
    · rw [if_pos r1] at hu
      cases hu
      exact Or.inl ⟨rfl, r8, r2, r2, r3, r4, r5, r9, e1, g3, r1, r10, fr_m (fr_s r6 fr_0 rfl rfl) rfl rfl, r7, r11, r12⟩
end LYW
