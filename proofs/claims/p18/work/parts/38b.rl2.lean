/-! ===== what EXPRs and statements read and write, side by side ===== -/
section GEX
variable {K M K0 M0 : mR} {s : Int}
def GF (K0 M0 K M : mR) : Prop := fr [] [60, 61, 62] K0 K ∧ fr [] [135, 136, 137] M0 M
def GS (s : Int) (K0 M0 K M : mR) : Prop := fr [] [60, 61, 62] K0 K ∧ fr [] [135, 136, 137] M0 M ∧ SR1 s K0 M0 (K.2 60) (M.2 135) ∧ SW1 s K0 M0 (K.2 61) (M.2 136) ∧ SA1 s K0 (K.2 62) (M.2 137)
theorem ix221 {y : Int} (s0 : 0 ≤ s) (s1 : s < 48) (y0 : 0 ≤ y) (y1 : y < 512) : cut ((cut (221 * s)) + y) = 221 * s + y := by
  rw [cut_i (show -2147483648 ≤ 221 * s by omega) (by omega), cut_i (by omega) (by omega)]
theorem ix221b {y z : Int} (s0 : 0 ≤ s) (s1 : s < 48) (y0 : 0 ≤ y) (y1 : y < 512) (z0 : 0 ≤ z) (z1 : z < 512) : cut ((cut ((cut (221 * s)) + y)) + z) = 221 * s + (y + z) := by
  rw [ix221 s0 s1 y0 y1, cut_i (by omega) (by omega)]
  omega
theorem n1_1 : nar1 1 = 1 := rfl
theorem gexpr_0 {a : Int} : kf_sp_gatherExpr s a (-1) K = some (0, K) := by
  unfold kf_sp_gatherExpr
  have e : kfb_sp_gatherExpr_3 s (-1) (a, K) = some (.inr K) := by
    unfold kfb_sp_gatherExpr_3
    rw [if_pos rfl]
  rw [whl_eq, e]
  rfl
theorem gexpr_r (s0 : 0 ≤ s) (s1 : s < 48) (hN : NDR K0 M0) (h20 : M0.1 20 ≤ 12) (h1 : fr [] [60, 61, 62] K0 K) (h2 : fr [] [135, 136, 137] M0 M) (h : SR1 s K0 M0 (K.2 60) (M.2 135)) {a b r : Int} (a0 : 0 ≤ a) (r0 : 0 ≤ r) (hr : r + 1 = b) (hb : b ≤ M0.1 28) : RR (kf_sp_gatherExpr s a r K) (rf_readsCode s a b M) (fun y z => SR1 s K0 M0 (y.2.2 60) (z.2.2 135)) := by
  have b8 : M0.1 28 ≤ 800 := hN.1.2.2
  unfold kf_sp_gatherExpr rf_readsCode
  refine RR_bnd (P := fun p q => SR1 s K0 M0 (p.2 60) (q.2 135)) (RR_whl (I := fun (p q : Int × mR) => p.1 = q.1 ∧ 0 ≤ q.1 ∧ fr [] [60, 61, 62] K0 p.2 ∧ fr [] [135, 136, 137] M0 q.2 ∧ SR1 s K0 M0 (p.2.2 60) (q.2.2 135)) (fun p q hI => ?_) ⟨rfl, a0, h1, h2, h⟩) (fun p q hp => RR_some hp)
  obtain ⟨i, K1⟩ := p
  obtain ⟨j, M1⟩ := q
  obtain ⟨e, j0, hS⟩ := hI
  have e : i = j := e
  subst e
  have j0 : 0 ≤ i := j0
  obtain ⟨f1, f2, hT⟩ := hS
  have f1 : fr [] [60, 61, 62] K0 K1 := f1
  have f2 : fr [] [135, 136, 137] M0 M1 := f2
  have hT : SR1 s K0 M0 (K1.2 60) (M1.2 135) := hT
  unfold kfb_sp_gatherExpr_3 rfb_readsCode_3
  dsimp only
  rw [if_neg (show ¬ r = -1 by omega)]
  refine RR_ii (show r < i ↔ b ≤ i by omega) (fun _ _ => RR_some hT) (fun g1 g2 => ?_)
  have hD := hN.2 i j0 (by omega)
  rw [← fr2 f1 18 rfl, ← fr2 f1 19 rfl, ← fr2 f2 65 rfl, ← fr2 f2 67 rfl] at hD
  rcases hD with ⟨h1, h2, h3, h4, h5, h6⟩ | ⟨h1, h2, h3, h4, h5⟩ | ⟨h1, h2, h3, h4, h5⟩ | ⟨h1, h2, h3, h4⟩
  · have n16 : M1.2 67 i / 16 < 12 := by omega
    have x0 : 0 ≤ 17 * (M1.2 67 i / 16) + 1 + M1.2 67 i % 16 := by omega
    have x1 : 17 * (M1.2 67 i / 16) + 1 + M1.2 67 i % 16 < 204 := by omega
    have t1 : th (17 * (M1.2 67 i / 16) + 1 + M1.2 67 i % 16) = M1.2 67 i := by rw [th_f x1 (by omega)]; omega
    have t2 : th (17 * (M1.2 67 i / 16)) = 192 + M1.2 67 i / 16 := by rw [th_v (by omega) (by omega)]; omega
    rw [if_pos h2, if_pos h1, h6, mark60 s0 s1 x0 (by omega), bnd_some, if_neg (by omega)]
    unfold kfl_sp_gatherExpr_76 kfl_sp_gatherExpr_79 rfl_readsCode_129
    have e17 : cut (17 * (M1.2 67 i / 16) + 1 + M1.2 67 i % 16 - (17 * (M1.2 67 i / 16) + 1 + M1.2 67 i % 16).tmod 17) = 17 * (M1.2 67 i / 16) := by
      rw [Int.tmod_eq_emod_of_nonneg x0, cut_i (by omega) (by omega)]
      omega
    rw [e17, mark60 s0 s1 (by omega) (by omega), bnd_some, ix221 s0 s1 h3 (by omega), Int.tdiv_eq_ediv_of_nonneg h3, ix221b s0 s1 (by omega) (by omega) (by omega) (by omega), n1_1, cut_i (show -2147483648 ≤ i + 1 by omega) (by omega)]
    have hf : 17 * (M1.2 67 i / 16) + 1 + M1.2 67 i % 16 < 204 → (17 * (M1.2 67 i / 16) + 1 + M1.2 67 i % 16) % 17 ≠ 0 → (17 * (M1.2 67 i / 16) + 1 + M1.2 67 i % 16) % 17 - 1 < M0.2 29 (M0.2 34 ((17 * (M1.2 67 i / 16) + 1 + M1.2 67 i % 16) / 17)) := by
      intro _ _
      rw [show (17 * (M1.2 67 i / 16) + 1 + M1.2 67 i % 16) / 17 = M1.2 67 i / 16 by omega]
      omega
    have hA := SET_r (SET_r hT x0 (by omega) hf) (x := 17 * (M1.2 67 i / 16)) (by omega) (by omega) (fun _ q => absurd (by omega) q)
    rw [t1, t2] at hA
    exact RR_some ⟨rfl, (by show 0 ≤ i + 1; omega), fr_m (fr_m f1 rfl rfl) rfl rfl, fr_m f2 rfl rfl, hA⟩
  · have x0 : 0 ≤ 17 * M1.2 67 i := by omega
    have t1 : th (17 * M1.2 67 i) = 192 + M1.2 67 i := by rw [th_v (by omega) (by omega)]; omega
    rw [if_pos h2, if_neg (show ¬ M1.2 65 i = 401 by omega), if_pos h1, h5, mark60 s0 s1 x0 (by omega), bnd_some, if_neg (by omega)]
    unfold kfl_sp_gatherExpr_76 kfl_sp_gatherExpr_79 rfl_readsCode_129
    have e17 : cut (17 * M1.2 67 i - (17 * M1.2 67 i).tmod 17) = 17 * M1.2 67 i := by
      rw [Int.tmod_eq_emod_of_nonneg x0, cut_i (by omega) (by omega)]
      omega
    rw [e17, mark60 s0 s1 (by omega) (by omega), bnd_some, ix221b s0 s1 (by omega) (by omega) (by omega) (by omega), n1_1, cut_i (show -2147483648 ≤ i + 1 by omega) (by omega)]
    have hA := SET_r (SET_r hT x0 (by omega) (fun _ q => absurd (by omega) q)) x0 (by omega) (fun _ q => absurd (by omega) q)
    rw [t1, upI_dup] at hA
    exact RR_some ⟨rfl, (by show 0 ≤ i + 1; omega), fr_m (fr_m f1 rfl rfl) rfl rfl, fr_m f2 rfl rfl, hA⟩
  · have t1 : th (204 + M1.2 67 i) = 204 + M1.2 67 i := th_m (by omega)
    rw [if_pos h2, if_neg (show ¬ M1.2 65 i = 401 by omega), if_neg (show ¬ M1.2 65 i = 404 by omega), if_pos h1, h5, mark60 s0 s1 (by omega) (by omega), bnd_some, if_pos (by omega)]
    unfold kfl_sp_gatherExpr_76 kfl_sp_gatherExpr_79 rfl_readsCode_129
    rw [mark60 s0 s1 (by omega) (by omega), bnd_some, ix221b s0 s1 (by omega) (by omega) (by omega) (by omega), n1_1, cut_i (show -2147483648 ≤ i + 1 by omega) (by omega)]
    have hA := SET_r (SET_r hT (x := 204 + M1.2 67 i) (by omega) (by omega) (fun q _ => absurd q (by omega))) (x := 204 + M1.2 67 i) (by omega) (by omega) (fun q _ => absurd q (by omega))
    rw [t1, upI_dup] at hA
    exact RR_some ⟨rfl, (by show 0 ≤ i + 1; omega), fr_m (fr_m f1 rfl rfl) rfl rfl, fr_m f2 rfl rfl, hA⟩
  · rw [if_neg h4, if_neg h1, if_neg h3, if_neg h2]
    unfold kfl_sp_gatherExpr_79 rfl_readsCode_129
    rw [cut_i (by omega) (by omega)]
    exact RR_some ⟨rfl, (by show 0 ≤ i + 1; omega), f1, f2, hT⟩
theorem gexpr_s (s0 : 0 ≤ s) (s1 : s < 48) (hN : NDR K0 M0) (h20 : M0.1 20 ≤ 12) (h : GS s K0 M0 K M) {a b r : Int} (a0 : 0 ≤ a) (r0 : 0 ≤ r) (hr : r + 1 = b) (hb : b ≤ M0.1 28) : RR (kf_sp_gatherExpr s a r K) (rf_readsCode s a b M) (fun y z => GS s K0 M0 y.2 z.2) := by
  intro y z hy hz
  have g1 := u_kf_sp_gatherExpr s _ _ K y hy
  have g2 := (u_rf_readsCode s _ _ M z hz).1
  refine ⟨fr_s g1 h.1 rfl rfl, fr_s g2 h.2.1 rfl rfl, gexpr_r s0 s1 hN h20 h.1 h.2.1 h.2.2.1 a0 r0 hr hb y z hy hz, ?_, ?_⟩
  · rw [fr2 g1 61 rfl, fr2 g2 136 rfl]
    exact h.2.2.2.1
  · rw [fr2 g1 62 rfl, fr2 g2 137 rfl]
    exact h.2.2.2.2
/-- a place that is written -/
theorem place_w (s0 : 0 ≤ s) (s1 : s < 48) (h20 : M0.1 20 ≤ 12) (h : GS s K0 M0 K M) {a b : Int} (hp : PLS (M0.1 20) (M0.1 21) (M0.2 29) (M0.2 34) a b) : 0 ≤ a ∧ a < 220 ∧ (a < 204 → a % 17 ≠ 0) ∧ ∃ m, rf_writesPlace s b M = some (0, m) ∧ RP (kfl_sp_gatherDeed_172 s a 0 (mO K [] [(61, MK (K.2 61) s a)])) (fun y => GS s K0 M0 y.2 m) := by
  obtain ⟨f1, f2, hT, hW, hY⟩ := h
  rcases hp with ⟨h1, h2, h3, h4⟩ | ⟨h1, h2, h3, h4⟩
  · refine ⟨by omega, by omega, by omega, _, by unfold rf_writesPlace; rw [if_neg (by omega)], ?_⟩
    unfold kfl_sp_gatherDeed_172
    rw [if_pos rfl, if_pos (by omega)]
    refine RP_some ⟨fr_m f1 rfl rfl, fr_m f2 rfl rfl, ?_⟩
    have hA := SET_w hW (x := a) (by omega) (by omega) (fun q => absurd q (by omega)) (fun q _ => absurd q (by omega))
    rw [th_m (by omega)] at hA
    rw [ix221b s0 s1 (by omega) (by omega) (by omega) (by omega), n1_1, ← h4]
    exact ⟨hT, hA, hY⟩
  · have x1 : a < 204 := by omega
    refine ⟨by omega, by omega, by omega, _, by unfold rf_writesPlace; rw [if_pos h1], ?_⟩
    unfold kfl_sp_gatherDeed_172
    have e17 : cut (a - a.tmod 17) = 17 * ((b - 16) / 16) := by
      rw [Int.tmod_eq_emod_of_nonneg (by omega), cut_i (by omega) (by omega)]
      omega
    rw [if_pos rfl, if_neg (by omega), e17, mark60 s0 s1 (by omega) (by omega), bnd_some]
    refine RP_some ⟨fr_m (fr_m f1 rfl rfl) rfl rfl, fr_m f2 rfl rfl, ?_⟩
    have q1 : a / 17 = (b - 16) / 16 := by omega
    have hA := SET_w hW (x := a) (by omega) (by omega) (fun _ => by omega) (fun _ _ => by rw [q1]; omega)
    have hB := SET_r hT (x := 17 * ((b - 16) / 16)) (by omega) (by omega) (fun _ q => absurd (by omega) q)
    rw [show th a = b - 16 by rw [th_f x1 (by omega)]; omega] at hA
    rw [show th (17 * ((b - 16) / 16)) = 192 + (b - 16) / 16 by rw [th_v (by omega) (by omega)]; omega] at hB
    rw [show cut (b - 16) = b - 16 from cut_i (by omega) (by omega), Int.tdiv_eq_ediv_of_nonneg (show 0 ≤ b - 16 by omega), ix221b s0 s1 (by omega) (by omega) (by omega) (by omega), n1_1, ix221 s0 s1 (by omega) (by omega), show cut (221 * s + b - 16) = 221 * s + (b - 16) by rw [cut_i (by omega) (by omega)]; omega]
    exact ⟨hB, hA, hY⟩
end GEX
