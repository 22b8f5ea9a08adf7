/-! ===== read, the whole of it ===== -/
section RDW
variable {K M : mR}
/-- the tape of both -/
def TPE (K M : mR) : Prop := K.1 200 = M.1 5 ∧ 0 ≤ M.1 5 ∧ M.1 5 ≤ 4000 ∧ ∀ i, 0 ≤ i → i < M.1 5 → K.2 1 i = (if M.2 3 i < 128 then M.2 3 i else M.2 3 i - 256)
theorem fill10_k {v : Int} : RP (kf_Arrays_fill0_b10 v K) (fun z => fr [] [10] K z.2 ∧ ∀ i, 0 ≤ i → i < 192 → z.2.2 10 i = v) := by
  unfold kf_Arrays_fill0_b10
  refine RP_bnd (P := fun e : mR => fr [] [10] K e ∧ ∀ i, 0 ≤ i → i < 192 → e.2 10 i = v) (RP_whl (I := fun s : Int × mR => 0 ≤ s.1 ∧ s.1 ≤ 192 ∧ fr [] [10] K s.2 ∧ ∀ i, 0 ≤ i → i < s.1 → s.2.2 10 i = v) (fun s hs => ?_) ⟨Int.le_refl 0, (show (0 : Int) ≤ 192 by decide), fr_0, fun i i0 i1 => absurd (show i < 0 from i1) (by omega)⟩) (fun e he => RP_some he)
  obtain ⟨k, m⟩ := s
  obtain ⟨a0, a1, a2, a3⟩ := hs
  have a0 : 0 ≤ k := a0
  have a1 : k ≤ 192 := a1
  have a3 : ∀ i, 0 ≤ i → i < k → m.2 10 i = v := a3
  unfold kfb_Arrays_fill0_b10_5
  dsimp only
  refine RP_ite (fun g => RP_some ⟨a2, fun i i0 i1 => a3 i i0 (by omega)⟩) (fun g => ?_)
  rw [cut_i (by omega) (by omega)]
  refine RP_some ⟨(by show 0 ≤ k + 1; omega), (by show k + 1 ≤ 192; omega), fr_m a2 rfl rfl, fun i i0 i1 => ?_⟩
  show upI (m.2 10) k v i = v
  by_cases e : i = k
  · rw [e, upI_s]
  · rw [upI_n e]
    have i1 : i < k + 1 := i1
    exact a3 i i0 (by omega)
theorem fill14_k {v : Int} : RP (kf_Arrays_fill0_b14 v K) (fun z => fr [] [14] K z.2 ∧ ∀ i, 0 ≤ i → i < 16 → z.2.2 14 i = v) := by
  unfold kf_Arrays_fill0_b14
  refine RP_bnd (P := fun e : mR => fr [] [14] K e ∧ ∀ i, 0 ≤ i → i < 16 → e.2 14 i = v) (RP_whl (I := fun s : Int × mR => 0 ≤ s.1 ∧ s.1 ≤ 16 ∧ fr [] [14] K s.2 ∧ ∀ i, 0 ≤ i → i < s.1 → s.2.2 14 i = v) (fun s hs => ?_) ⟨Int.le_refl 0, (show (0 : Int) ≤ 16 by decide), fr_0, fun i i0 i1 => absurd (show i < 0 from i1) (by omega)⟩) (fun e he => RP_some he)
  obtain ⟨k, m⟩ := s
  obtain ⟨a0, a1, a2, a3⟩ := hs
  have a0 : 0 ≤ k := a0
  have a1 : k ≤ 16 := a1
  have a3 : ∀ i, 0 ≤ i → i < k → m.2 14 i = v := a3
  unfold kfb_Arrays_fill0_b14_5
  dsimp only
  refine RP_ite (fun g => RP_some ⟨a2, fun i i0 i1 => a3 i i0 (by omega)⟩) (fun g => ?_)
  rw [cut_i (by omega) (by omega)]
  refine RP_some ⟨(by show 0 ≤ k + 1; omega), (by show k + 1 ≤ 16; omega), fr_m a2 rfl rfl, fun i i0 i1 => ?_⟩
  show upI (m.2 14) k v i = v
  by_cases e : i = k
  · rw [e, upI_s]
  · rw [upI_n e]
    have i1 : i < k + 1 := i1
    exact a3 i i0 (by omega)
def PZ (K : mR) : Prop := K.1 214 = 0 ∧ K.1 215 = 0 ∧ K.1 216 = 3 ∧ K.1 217 = 0 ∧ K.1 218 = 0 ∧ K.1 219 = 0 ∧ K.1 220 = 0 ∧ K.1 221 = 0 ∧ K.1 222 = 0 ∧ K.1 223 = 0 ∧ K.1 224 = 0 ∧ K.1 225 = 0 ∧ K.1 226 = 0 ∧ (∀ i, 0 ≤ i → i < 192 → K.2 10 i = 0) ∧ ∀ i, 0 ≤ i → i < 16 → K.2 14 i = 16
theorem PZ_f {K' : mR} {F A : List Nat} (h : PZ K) (hK : fr F A K K') (c1 : chk [214, 215, 216, 217, 218, 219, 220, 221, 222, 223, 224, 225, 226] F = true) (c2 : chk [10, 14] A = true) : PZ K' := by
  unfold PZ
  rw [fr1 hK 214 (chk_1 c1 (by decide)), fr1 hK 215 (chk_1 c1 (by decide)), fr1 hK 216 (chk_1 c1 (by decide)), fr1 hK 217 (chk_1 c1 (by decide)), fr1 hK 218 (chk_1 c1 (by decide)), fr1 hK 219 (chk_1 c1 (by decide)), fr1 hK 220 (chk_1 c1 (by decide)), fr1 hK 221 (chk_1 c1 (by decide)), fr1 hK 222 (chk_1 c1 (by decide)), fr1 hK 223 (chk_1 c1 (by decide)), fr1 hK 224 (chk_1 c1 (by decide)), fr1 hK 225 (chk_1 c1 (by decide)), fr1 hK 226 (chk_1 c1 (by decide)), fr2 hK 10 (chk_1 c2 (by decide)), fr2 hK 14 (chk_1 c2 (by decide))]
  exact h
theorem clear_pr : RP (kf_pr_clear K) (fun z => PZ z.2 ∧ fr kF_pr_clear kA_pr_clear K z.2) := by
  intro z hz
  refine ⟨?_, u_kf_pr_clear K z hz⟩
  revert z
  show RP (kf_pr_clear K) (fun z => PZ z.2)
  unfold kf_pr_clear
  refine RP_bnd fill10_k (fun y1 h1 => RP_bnd fill14_k (fun y2 h2 => RP_some ?_))
  obtain ⟨f1, a1⟩ := h1
  obtain ⟨f2, a2⟩ := h2
  refine ⟨fr1 f2 214 rfl, fr1 f2 215 rfl, fr1 f2 216 rfl, rfl, rfl, rfl, rfl, rfl, rfl, rfl, rfl, rfl, rfl, fun i i0 i1 => ?_, fun i i0 i1 => a2 i i0 i1⟩
  show y2.2.2 10 i = 0
  rw [fr2 f2 10 rfl]
  exact a1 i i0 i1
theorem clear_pi : RP (kf_pi_clear K) (fun z => fr kF_pi_clear kA_pi_clear K z.2 ∧ z.2.1 232 = 0 ∧ z.2.1 233 = 0 ∧ z.2.1 234 = 0 ∧ z.2.1 235 = 0) := by
  intro z hz
  refine ⟨u_kf_pi_clear K z hz, ?_⟩
  revert z
  show RP (kf_pi_clear K) (fun z => z.2.1 232 = 0 ∧ z.2.1 233 = 0 ∧ z.2.1 234 = 0 ∧ z.2.1 235 = 0)
  unfold kf_pi_clear
  refine RP_bnd (u_kf_Arrays_fill1_b71 0 _) (fun y1 h1 => RP_bnd (uw_kfb_pi_clear_30 _) (fun e h2 => RP_some ?_))
  exact ⟨(fr1 h2 232 rfl).trans (fr1 h1 232 rfl), (fr1 h2 233 rfl).trans (fr1 h1 233 rfl), (fr1 h2 234 rfl).trans (fr1 h1 234 rfl), (fr1 h2 235 rfl).trans (fr1 h1 235 rfl)⟩
/-- the reference copies its tape -/
theorem copy_r (h0 : 0 ≤ M.1 6) (h1 : M.1 6 ≤ 4000) : RP (whl rfb_read_15 (0, M)) (fun e => fr [] [4] M e ∧ (∀ i, 0 ≤ i → i < M.1 6 → e.2 4 i = M.2 3 i) ∧ ∀ i, (e.2 4 i = M.2 4 i ∨ ∃ j, e.2 4 i = M.2 3 j)) := by
  refine RP_whl (I := fun s : Int × mR => 0 ≤ s.1 ∧ s.1 ≤ M.1 6 ∧ fr [] [4] M s.2 ∧ (∀ i, 0 ≤ i → i < s.1 → s.2.2 4 i = M.2 3 i) ∧ ∀ i, (s.2.2 4 i = M.2 4 i ∨ ∃ j, s.2.2 4 i = M.2 3 j)) (fun s hs => ?_) ⟨Int.le_refl 0, h0, fr_0, fun i i0 i1 => absurd (show i < 0 from i1) (by omega), fun i => Or.inl rfl⟩
  obtain ⟨k, m⟩ := s
  obtain ⟨a0, a1, a2, a3, a4⟩ := hs
  have a0 : 0 ≤ k := a0
  have a1 : k ≤ M.1 6 := a1
  have a3 : ∀ i, 0 ≤ i → i < k → m.2 4 i = M.2 3 i := a3
  unfold rfb_read_15
  dsimp only
  have e6 : m.1 6 = M.1 6 := fr1 a2 6 rfl
  refine RP_ite (fun g => RP_some ⟨a2, fun i i0 i1 => a3 i i0 (by omega), a4⟩) (fun g => ?_)
  rw [cut_i (by omega) (by omega)]
  refine RP_some ⟨(by show 0 ≤ k + 1; omega), (by show k + 1 ≤ M.1 6; omega), fr_m a2 rfl rfl, fun i i0 i1 => ?_, fun i => ?_⟩
  · show upI (m.2 4) k (m.2 3 k) i = _
    by_cases e : i = k
    · rw [e, upI_s, fr2 a2 3 rfl]
    · rw [upI_n e]
      have i1 : i < k + 1 := i1
      exact a3 i i0 (by omega)
  · show upI (m.2 4) k (m.2 3 k) i = _ ∨ ∃ j, upI (m.2 4) k (m.2 3 k) i = _
    by_cases e : i = k
    · rw [e, upI_s, fr2 a2 3 rfl]
      exact Or.inr ⟨k, rfl⟩
    · rw [upI_n e]
      exact a4 i
theorem metas_r : RP (whl rfb_read_88 (0, M)) (fun e => fr [] [35] M e ∧ ∀ i, 0 ≤ i → i < 3 → e.2 35 i = 16) := by
  refine RP_whl (I := fun s : Int × mR => 0 ≤ s.1 ∧ s.1 ≤ 3 ∧ fr [] [35] M s.2 ∧ ∀ i, 0 ≤ i → i < s.1 → s.2.2 35 i = 16) (fun s hs => ?_) ⟨Int.le_refl 0, (show (0 : Int) ≤ 3 by decide), fr_0, fun i i0 i1 => absurd (show i < 0 from i1) (by omega)⟩
  obtain ⟨k, m⟩ := s
  obtain ⟨a0, a1, a2, a3⟩ := hs
  have a0 : 0 ≤ k := a0
  have a1 : k ≤ 3 := a1
  have a3 : ∀ i, 0 ≤ i → i < k → m.2 35 i = 16 := a3
  unfold rfb_read_88
  dsimp only
  refine RP_ite (fun g => RP_some ⟨a2, fun i i0 i1 => a3 i i0 (by omega)⟩) (fun g => ?_)
  rw [cut_i (by omega) (by omega)]
  refine RP_some ⟨(by show 0 ≤ k + 1; omega), (by show k + 1 ≤ 3; omega), fr_m a2 rfl rfl, fun i i0 i1 => ?_⟩
  show upI (m.2 35) k 16 i = 16
  by_cases e : i = k
  · rw [e, upI_s]
  · rw [upI_n e]
    have i1 : i < k + 1 := i1
    exact a3 i i0 (by omega)
def RZ (M : mR) : Prop := M.1 8 = 0 ∧ M.1 9 = 0 ∧ M.1 10 = 0 ∧ M.1 13 = 0 ∧ M.1 19 = 0 ∧ M.1 20 = 0 ∧ M.1 21 = 3 ∧ M.1 22 = 0 ∧ M.1 23 = 0 ∧ M.1 24 = 0 ∧ M.1 25 = 0 ∧ M.1 26 = 0 ∧ M.1 27 = 0 ∧ M.1 28 = 0 ∧ M.1 64 = -1 ∧ M.1 99 = 0 ∧ M.1 127 = 0 ∧ (∀ i, 0 ≤ i → i < 3 → M.2 35 i = 16)
/-- the reference up to its first word -/
theorem head_r (h0 : 0 ≤ M.1 5) (h1 : M.1 5 ≤ 4000) : RP (rf_read M) (fun z => ∃ N, RZ N ∧ N.1 6 = M.1 5 ∧ (∀ i, 0 ≤ i → i < M.1 5 → N.2 4 i = M.2 3 i) ∧ (∀ i, (N.2 4 i = M.2 4 i ∨ ∃ j, N.2 4 i = M.2 3 j)) ∧ N.2 0 = M.2 0 ∧ N.2 18 = M.2 18 ∧ (bnd (rf_next N) fun y28 => bnd (whl rfb_read_160 y28.2) (fun e31 : mR => rfl_read_182 e31)) = some z) := by
  unfold rf_read
  have eL : ∃ L, L = mO M [(5, 0), (6, M.1 5)] [] := ⟨_, rfl⟩
  obtain ⟨L, eL⟩ := eL
  have fL : fr [5, 6] [] M L := by rw [eL]; exact fr_m fr_0 rfl rfl
  have l6 : L.1 6 = M.1 5 := by rw [eL]; rfl
  rw [← eL]
  clear eL
  refine RP_bnd (copy_r (M := L) (by omega) (by omega)) (fun e he => ?_)
  obtain ⟨f1, c1, c2⟩ := he
  unfold rfl_read_41
  refine RP_bnd metas_r (fun g hg => ?_)
  obtain ⟨f2, c3⟩ := hg
  unfold rfl_read_107
  refine RP_bnd (u_rf_begin _) (fun y hy => ?_)
  have f3 := hy.1
  unfold rfl_read_156
  intro z hz
  refine ⟨y.2, ⟨(fr1 f3 8 rfl).trans (fr1 f2 8 rfl), (fr1 f3 9 rfl).trans (fr1 f2 9 rfl), (fr1 f3 10 rfl).trans (fr1 f2 10 rfl), (fr1 f3 13 rfl).trans (fr1 f2 13 rfl), (fr1 f3 19 rfl).trans (fr1 f2 19 rfl), (fr1 f3 20 rfl).trans (fr1 f2 20 rfl), (fr1 f3 21 rfl).trans (fr1 f2 21 rfl), fr1 f3 22 rfl, fr1 f3 23 rfl, fr1 f3 24 rfl, fr1 f3 25 rfl, fr1 f3 26 rfl, fr1 f3 27 rfl, fr1 f3 28 rfl, fr1 f3 64 rfl, fr1 f3 99 rfl, (fr1 f3 127 rfl).trans (fr1 f2 127 rfl), ?_⟩, ?_, ?_, ?_, ?_, ?_, hz⟩
  · intro i i0 i1
    rw [fr2 f3 35 rfl]
    exact c3 i i0 i1
  · exact (fr1 f3 6 rfl).trans ((fr1 f2 6 rfl).trans ((fr1 f1 6 rfl).trans l6))
  · intro i i0 i1
    rw [fr2 f3 4 rfl]
    show g.2 4 i = _
    rw [fr2 f2 4 rfl]
    show e.2 4 i = _
    rw [c1 i i0 (by omega), fr2 fL 3 rfl]
  · intro i
    rw [fr2 f3 4 rfl]
    show g.2 4 i = _ ∨ ∃ j, g.2 4 i = _
    rw [fr2 f2 4 rfl]
    show e.2 4 i = _ ∨ ∃ j, e.2 4 i = _
    rw [← fr2 fL 4 rfl, ← fr2 fL 3 rfl]
    exact c2 i
  · rw [fr2 f3 0 rfl]
    show g.2 0 = _
    rw [fr2 f2 0 rfl]
    show e.2 0 = _
    rw [fr2 f1 0 rfl, fr2 fL 0 rfl]
  · rw [fr2 f3 18 rfl]
    show g.2 18 = _
    rw [fr2 f2 18 rfl]
    show e.2 18 = _
    rw [fr2 f1 18 rfl, fr2 fL 18 rfl]
theorem first_fb {K' M' : mR} (hL : LR K' M') (hK : fr kF_tx_advance kA_tx_advance K K') (hM : fr rF_next rA_next M M') (hZ : PZ K) (hR : RZ M) : FB K' M' ∧ dcl M' = 3 := by
  have hZ := PZ_f hZ hK rfl rfl
  obtain ⟨k214, k215, k216, k217, k218, k219, k220, k221, k222, k223, k224, k225, k226, k10, k14⟩ := hZ
  obtain ⟨-, -, -, m13, m19, m20, m21, m22, m23, m24, m25, m26, m27, m28, m64, m99, -, m35⟩ := hR
  rw [← fr1 hM 13 rfl] at m13
  rw [← fr1 hM 19 rfl] at m19
  rw [← fr1 hM 20 rfl] at m20
  rw [← fr1 hM 21 rfl] at m21
  rw [← fr1 hM 22 rfl] at m22
  rw [← fr1 hM 23 rfl] at m23
  rw [← fr1 hM 24 rfl] at m24
  rw [← fr1 hM 25 rfl] at m25
  rw [← fr1 hM 26 rfl] at m26
  rw [← fr1 hM 27 rfl] at m27
  rw [← fr1 hM 28 rfl] at m28
  rw [← fr1 hM 64 rfl] at m64
  rw [← fr1 hM 99 rfl] at m99
  rw [← fr2 hM 35 rfl] at m35
  have h8 : 0 ≤ M'.1 8 := hL.2.1.2.2.2.1
  have hC : CNq K' M' := by
    unfold CNq CNx
    omega
  have hNC : NC K' M' := fun k k0 k1 => absurd k1 (by omega)
  have hH : HD K' M' := ⟨fun h h0 h1 => absurd h1 (by omega), fun r r0 r1 => k10 r (by omega) r1⟩
  have hU : HU K' M' := by
    intro h i j h0 h1 i0 i1 j0 j1 ij hi hj
    rw [k10 (16 * h + i) (by omega) (by omega)] at hi
    omega
  have hI : IN K' M' := fun i i0 i1 => absurd i1 (by omega)
  have hE : ME K' M' := ⟨fun i i0 i1 => by rw [k14 i i0 (by omega), m35 i i0 (by omega)]; omega, m35⟩
  have hP : PA K' M' := fun a a0 a1 => absurd a1 (by omega)
  have hA : AR K' M' := fun i i0 i1 => absurd i1 (by omega)
  have hN : NDR K' M' := ⟨by omega, fun k k0 k1 => absurd k1 (by omega)⟩
  have hD : DE K' M' := ⟨by omega, fun k k0 k1 => absurd k1 (by omega)⟩
  have hAC : AC K' M' := fun a a0 a1 => absurd a1 (by omega)
  have hSO : SO K' M' := ⟨fun s s0 s1 => absurd s1 (by omega), fun d d0 d1 => absurd d1 (by omega)⟩
  have hSG : SGd (M'.1 23) (M'.1 24) K' M' := fun e e0 e1 => absurd e1 (by omega)
  have hT : TBn (M'.1 26) K' M' := fun t t0 t1 => absurd t1 (by omega)
  refine ⟨⟨⟨hL, ⟨hC, hNC, hH, hU, hI, hE, hP⟩, hA, hN, by omega, by omega⟩, m64, hD, hAC, by omega, hSO, hSG, hT, fun t t0 t1 => absurd t1 (by omega), k218, k225, m27⟩, ?_⟩
  unfold dcl
  omega
/-- read, side by side -/
theorem read_s (hK : KTy K) (hM : Ty M) (hW : KWD K) (hT : TPE K M) : RR (kf_pw_read K) (rf_read M) (GV RDg) := by
  obtain ⟨t1, t2, t3, t4⟩ := hT
  intro u v hu hv
  obtain ⟨N, hR, n6, n4, n4', n0, n18, hv⟩ := head_r t2 t3 v hv
  unfold kf_pw_read at hu
  cases h1 : kf_pr_clear (mO K [(200, 0), (201, 0), (202, (-1))] []) with
  | none => rw [h1] at hu; cases hu
  | some y1 =>
  rw [h1, bnd_some] at hu
  obtain ⟨z1, f1⟩ := clear_pr y1 h1
  cases h2 : kf_pi_clear y1.2 with
  | none => rw [h2] at hu; cases hu
  | some y2 =>
  rw [h2, bnd_some] at hu
  obtain ⟨f2, -⟩ := clear_pi y2 h2
  cases h3 : kf_tx_open (K.1 200) y2.2 with
  | none => rw [h3] at hu; cases hu
  | some y3 =>
  rw [h3, bnd_some] at hu
  obtain ⟨L, hG, f3, l204, l205, l213, x, hx, x1, x2⟩ := open_k y3 h3
  have z3 : PZ L := PZ_f (PZ_f z1 f2 rfl rfl) f3 rfl rfl
  have fKL : fr [200, 201, 202, 203, 204, 205, 209, 210, 211, 212, 213, 214, 215, 216, 217, 218, 219, 220, 221, 222, 223, 224, 225, 226, 232, 233, 234, 235] [6, 7, 8, 9, 10, 14, 71, 106] K L := fr_s f3 (fr_s f2 (fr_s f1 (fr_m fr_0 rfl rfl) rfl rfl) rfl rfl) rfl rfl
  have r4 : ∀ i, 0 ≤ M.2 4 i ∧ M.2 4 i ≤ 255 := fun i => hM.2.1 4 i
  have r3 : ∀ i, 0 ≤ M.2 3 i ∧ M.2 3 i ≤ 255 := fun i => hM.2.1 3 i
  have hLT : LT L N := by
    refine ⟨⟨by omega, by omega, fun i => ?_⟩, ⟨by omega, by omega, fun i => ?_⟩, ⟨by omega, fun i i0 i1 => ?_⟩, ?_, by rw [n0]; exact hM.2.2.1⟩
    · rcases n4' i with q | ⟨j, q⟩
      · rw [q]; exact r4 i
      · rw [q]; exact r3 j
    · rw [fr2 fKL 1 rfl]
      exact hK.2.1 1 i
    · rw [n6] at i1
      rw [fr2 fKL 1 rfl, n4 i i0 i1]
      exact t4 i i0 i1
    · unfold KWD
      rw [fr2 fKL 5 rfl]
      exact hW
  have hNM : NMR L N := GVK_n hG hR.2.2.2.1 (by rw [n18]; exact hM.2.2.2)
  cases h4 : rf_next N with
  | none => rw [h4] at hv; cases hv
  | some z4 =>
  rw [h4, bnd_some] at hv
  have g1 := u_kf_tx_advance L x hx
  have g2 := u_rf_next N z4 h4
  have hf := hR.2.2.1
  rcases rr_adv1 hLT hNM l213 hf l205 (show cut (N.1 8 + N.1 9) = 0 by rw [hR.1, hR.2.1]; decide) (Int.le_refl 0) (by omega) x z4 hx h4 with ⟨q0, -, q1⟩ | ⟨q1, q2⟩
  · rw [if_pos (by omega)] at hu
    obtain ⟨hF, hd⟩ := first_fb q1 g1 g2.1 z3 hR
    rw [x2] at hF
    cases h5 : whl kfb_pw_read_46 (1, 0, y3.2.2) with
    | none => rw [h5] at hu; cases hu
    | some a =>
    rw [h5, bnd_some] at hu
    cases h6 : whl rfb_read_160 z4.2 with
    | none => rw [h6] at hv; cases hv
    | some b =>
    rw [h6, bnd_some] at hv
    rcases decls_s (s := (1, 0, y3.2.2)) (M := z4.2) ⟨hF, rfl, (by show (0 : Int) + 3 = _; omega)⟩ a b h5 h6 with ⟨K5, rfl, hF5⟩ | ⟨⟨e, rfl, he⟩, hb⟩
    · exact rest_s hF5 u v hu hv
    · cases hu
      exact Or.inr ⟨he, rd182_f b hb v hv⟩
  · rw [if_neg (by omega)] at hu
    cases hu
    cases h6 : whl rfb_read_160 z4.2 with
    | none => rw [h6] at hv; cases hv
    | some b =>
    rw [h6, bnd_some] at hv
    have e : rfb_read_160 z4.2 = some (.inr z4.2) := by
      unfold rfb_read_160
      rw [if_neg (show ¬ z4.2.1 10 = 0 by omega)]
    rw [whl_eq, e] at h6
    cases h6
    exact Or.inr ⟨by show y3.1 ≠ 0; omega, rd182_f z4.2 q2 v hv⟩
end RDW
