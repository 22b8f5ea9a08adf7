section FLD2
variable {K M : mR}
theorem HD_new (h : LR K M) (hD : HD K M) (h1 : M.1 7 = 1) {x w : Int} (x0 : 0 ≤ x) (x1 : x < M.1 19) (x12 : M.1 19 ≤ 12) (hi : M.2 29 x < 16) (w0 : 1 ≤ w) (w1 : w ≤ 64) : HDx (upI (K.2 10) (16 * x + M.2 29 x) w) (upI (K.2 11) (16 * x + M.2 29 x) (K.1 209)) (upI (K.2 12) (16 * x + M.2 29 x) (K.1 210)) (M.1 6) (M.1 19) (M.2 4) (upI (M.2 29) x (M.2 29 x + 1)) (upI (M.2 30) x (M.2 30 x + w)) (upI (M.2 31) (16 * x + M.2 29 x) (M.1 8)) (upI (M.2 32) (16 * x + M.2 29 x) (M.1 9)) (upI (M.2 33) (16 * x + M.2 29 x) w) := by
  obtain ⟨n16, nch, npk, nr1, nr2⟩ := h.2.1.2.2.2.2.2.2.2.2 h1
  obtain ⟨xe, y1, y2⟩ := h.2.1.2.2.2.2.2.1 (by omega)
  have y8 := h.2.1.2.2.2.1
  obtain ⟨d1, d2, ⟨d3, d6, d7⟩, d4, d5⟩ := hD.1 x x0 x1
  have z0 : K.2 10 (16 * x + M.2 29 x) = 0 := d5 _ (by omega) hi
  refine ⟨fun a a0 a1 => ?_, fun r r0 r1 => ?_⟩
  · by_cases e : a = x
    · subst e
      rw [upI_s, upI_s]
      refine ⟨by omega, by omega, ⟨?_, by omega, by omega⟩, fun i i0 i1 => ?_, fun i i0 i1 => ?_⟩
      · rw [sumW_u d1 z0 16 (by omega), d3]
      · by_cases ei : i = M.2 29 a
        · subst ei
          rw [upI_s, upI_s, upI_s, upI_s, upI_s, upI_s]
          exact ⟨rfl, w0, w1, y8, y1, n16, y2, nch, npk, nr1, nr2⟩
        · rw [upI_n (show 16 * a + i ≠ 16 * a + M.2 29 a by omega), upI_n (show 16 * a + i ≠ 16 * a + M.2 29 a by omega), upI_n (show 16 * a + i ≠ 16 * a + M.2 29 a by omega), upI_n (show 16 * a + i ≠ 16 * a + M.2 29 a by omega), upI_n (show 16 * a + i ≠ 16 * a + M.2 29 a by omega), upI_n (show 16 * a + i ≠ 16 * a + M.2 29 a by omega)]
          exact d4 i i0 (by omega)
      · rw [upI_n (show 16 * a + i ≠ 16 * a + M.2 29 a by omega)]
        exact d5 i (by omega) i1
    · obtain ⟨e1, e2, ⟨e3, e6, e7⟩, e4, e5⟩ := hD.1 a a0 a1
      rw [upI_n e, upI_n e]
      refine ⟨e1, e2, ⟨?_, e6, e7⟩, fun i i0 i1 => ?_, fun i i0 i1 => ?_⟩
      · rw [e3]
        exact sumW_c (fun j hj => (upI_n (by omega)).symm)
      · rw [upI_n (show 16 * a + i ≠ 16 * x + M.2 29 x by omega), upI_n (show 16 * a + i ≠ 16 * x + M.2 29 x by omega), upI_n (show 16 * a + i ≠ 16 * x + M.2 29 x by omega), upI_n (show 16 * a + i ≠ 16 * x + M.2 29 x by omega), upI_n (show 16 * a + i ≠ 16 * x + M.2 29 x by omega), upI_n (show 16 * a + i ≠ 16 * x + M.2 29 x by omega)]
        exact e4 i i0 i1
      · rw [upI_n (show 16 * a + i ≠ 16 * x + M.2 29 x by omega)]
        exact e5 i i0 i1
  · rw [upI_n (by omega)]
    exact hD.2 r r0 r1
theorem rr_field (h : LR K M) (hD : HD K M) {x i : Int} (x0 : 0 ≤ x) (x1 : x < M.1 19) (x12 : M.1 19 ≤ 12) (hi : i = M.2 29 x) : RR (kf_rd_field x i K) (rf_takeFieldOf x M) (GV (fun _ K2 _ M2 => LR K2 M2 ∧ HD K2 M2 ∧ M2.2 29 x = i + 1)) := by
  have hX := h.2.1
  have hf := h.2.2.2.2
  obtain ⟨d1, d2, ⟨d3, d6, d7⟩, d4, d5⟩ := hD.1 x x0 x1
  have bad : ∀ (X : Option (Int × Int × mR)) (Y : Option (Int × mR)), RP X (fun y => y.1 ≠ 0) → RP Y (fun z => 0 < z.2.1 10) → RR X Y (GV (fun _ K2 _ M2 => LR K2 M2 ∧ HD K2 M2 ∧ M2.2 29 x = i + 1)) := fun X Y h1 h2 => RR_w (RR_pr h1 h2) (fun _ _ q => Or.inr q)
  have n55 : ∀ v (z : Int × mR), 0 < z.2.1 10 → RP (rfl_takeFieldOf_55 x v z.2) (fun z => 0 < z.2.1 10) := fun v z hz => RP_w (u_rfl_takeFieldOf_55 x v z.2) (fun w hw => hw.2 hz)
  unfold kf_rd_field rf_takeFieldOf
  rw [if_pos (show M.1 10 ≤ 0 by omega), hX.1]
  refine RR_ii (wm_256 hX.2.1) (fun g1 g2 => ?_) (fun g1 g2 => bad _ _ (thr_l (refuse_1 _)) (RP_bnd (bad_1 M) (n55 _)))
  unfold kfl_rd_field_20
  by_cases h16 : i < 16
  · rw [if_pos h16, if_neg (show ¬ M.2 29 x = 16 by omega), cut_i (z := 16 * x) (by omega) (by omega), cut_i (z := 16 * x + M.2 29 x) (by omega) (by omega)]
    unfold kfl_rd_field_41 rfl_takeFieldOf_55
    rw [cut_i (z := 16 * x) (by omega) (by omega)]
    refine RR_l (fieldOf_k x0 (by omega)) (fun r hr => ?_)
    refine RR_r (fdl_r h hD g2 x0 x1 x12) (fun e he => ?_)
    rcases hr with ⟨r0, r1, r2, r3, r4⟩ | ⟨r0, r1⟩
    · rw [if_neg (by omega)]
      have rn : r < M.2 29 x := by
        apply Classical.byContradiction
        intro hn
        have := d5 r (by omega) r1
        omega
      rcases he with ⟨-, e2⟩ | ⟨e1, e2⟩
      · exact absurd ((fld_iff h hD g2 x0 x1 r0 rn).mp ⟨r3, r4⟩) (e2 r r0 rn)
      · exact bad _ _ (thr_l (fail_1 _ _ _)) (RP_w (u_rfl_takeFieldOf_106 x _ e) (fun w hw => hw.2 e1))
    · rw [if_pos r0]
      rcases he with ⟨e1, e2⟩ | ⟨e1, j, j0, j1, j2⟩
      · have e9 := e1.symm
        subst e9
        unfold kfl_rd_field_82 rfl_takeFieldOf_106
        rw [if_pos (show M.1 10 ≤ 0 by omega), cut_i (z := x * 16) (by omega) (by omega), cut_i (z := x * 16 + i) (by omega) (by omega), show x * 16 + i = 16 * x + M.2 29 x by omega]
        have hL' : LR (mO K [] [(11, upI (K.2 11) (16 * x + M.2 29 x) (K.1 209)), (12, upI (K.2 12) (16 * x + M.2 29 x) (K.1 210))]) (mO M [] [(31, upI (M.2 31) (16 * x + M.2 29 x) (M.1 8)), (32, upI (M.2 32) (16 * x + M.2 29 x) (M.1 9))]) := h
        refine RR_sq (A := fun q => fr kF_tx_advance kA_tx_advance (mO K [] [(11, upI (K.2 11) (16 * x + M.2 29 x) (K.1 209)), (12, upI (K.2 12) (16 * x + M.2 29 x) (K.1 210))]) q) (B := fun q => UR rF_next rA_next (mO M [] [(31, upI (M.2 31) (16 * x + M.2 29 x) (M.1 8)), (32, upI (M.2 32) (16 * x + M.2 29 x) (M.1 9))]) q) (LV_G (rr_adv hL' (show M.1 7 ≠ 0 by omega))) (u_kf_tx_advance _) (u_rf_next _) (fun z hz => RP_w (u_rfl_takeFieldOf_138 x _ z.2) (fun w hw => hw.2 hz)) (fun a K1 b M1 hG fK fM => ?_)
        obtain ⟨-, hL1⟩ := hG
        unfold rfl_takeFieldOf_138
        dsimp only
        refine RR_sq (A := fun q => fr kF_tx_expect kA_tx_expect K1 q) (B := fun q => UR rF_need rA_need M1 q) (LV_G (rr_exp hL1 (c := 58) (by omega))) (u_kf_tx_expect _ _) (u_rf_need _ _) (fun z hz => RP_w (u_rfl_takeFieldOf_144 x _ z.2) (fun w hw => hw.2 hz)) (fun a2 K2 b2 M2 hG fK2 fM2 => ?_)
        obtain ⟨-, hL2⟩ := hG
        unfold rfl_takeFieldOf_144
        dsimp only
        refine RR_sq (A := fun q => fr kF_tx_within kA_tx_within K2 q) (B := fun q => UR rF_number rA_number M2 q) (LV_G (rr_num hL2 (a := 1) (b := 64) (by omega))) (u_kf_tx_within _ _ K2) (u_rf_number _ _ M2) (fun z hz => RP_w (u_rfl_takeFieldOf_156 x _ _ z.1 z.2) (fun w hw => hw.2 hz)) (fun w K3 b3 M3 hG fK3 fM3 => ?_)
        obtain ⟨⟨e3, w0, w1⟩, hL3⟩ := hG
        unfold rfl_takeFieldOf_156
        dsimp only
        rw [← e3]
        have hL3' : LR (mO K3 [] [(10, upI (K3.2 10) (16 * x + M.2 29 x) w)]) (mO M3 [] [(33, upI (M3.2 33) (16 * x + M.2 29 x) w)]) := hL3
        refine RR_sq (A := fun q => fr kF_tx_expect kA_tx_expect (mO K3 [] [(10, upI (K3.2 10) (16 * x + M.2 29 x) w)]) q) (B := fun q => UR rF_need rA_need (mO M3 [] [(33, upI (M3.2 33) (16 * x + M.2 29 x) w)]) q) (LV_G (rr_exp hL3' (c := 59) (by omega))) (u_kf_tx_expect _ _) (u_rf_need _ _) (fun z hz => RP_w (u_rfl_takeFieldOf_163 x _ z.2) (fun w hw => hw.2 hz)) (fun a4 K4 b4 M4 hG fK4 fM4 => ?_)
        obtain ⟨-, hL4⟩ := hG
        unfold rfl_takeFieldOf_163
        dsimp only
        have e29 : M4.2 29 = M.2 29 := (fr2 fM4.1 29 rfl).trans ((fr2 fM3.1 29 rfl).trans ((fr2 fM2.1 29 rfl).trans (fr2 fM.1 29 rfl)))
        have e30 : M4.2 30 = M.2 30 := (fr2 fM4.1 30 rfl).trans ((fr2 fM3.1 30 rfl).trans ((fr2 fM2.1 30 rfl).trans (fr2 fM.1 30 rfl)))
        have e31 : M4.2 31 = upI (M.2 31) (16 * x + M.2 29 x) (M.1 8) := (fr2 fM4.1 31 rfl).trans ((fr2 fM3.1 31 rfl).trans ((fr2 fM2.1 31 rfl).trans (fr2 fM.1 31 rfl)))
        have e32 : M4.2 32 = upI (M.2 32) (16 * x + M.2 29 x) (M.1 9) := (fr2 fM4.1 32 rfl).trans ((fr2 fM3.1 32 rfl).trans ((fr2 fM2.1 32 rfl).trans (fr2 fM.1 32 rfl)))
        have e33' : M3.2 33 = M.2 33 := (fr2 fM3.1 33 rfl).trans ((fr2 fM2.1 33 rfl).trans (fr2 fM.1 33 rfl))
        have e33 : M4.2 33 = upI (M.2 33) (16 * x + M.2 29 x) w := (fr2 fM4.1 33 rfl).trans (by show upI (M3.2 33) _ w = _; rw [e33'])
        have k10' : K3.2 10 = K.2 10 := (fr2 fK3 10 rfl).trans ((fr2 fK2 10 rfl).trans (fr2 fK 10 rfl))
        have k10 : K4.2 10 = upI (K.2 10) (16 * x + M.2 29 x) w := (fr2 fK4 10 rfl).trans (by show upI (K3.2 10) _ w = _; rw [k10'])
        have k11 : K4.2 11 = upI (K.2 11) (16 * x + M.2 29 x) (K.1 209) := (fr2 fK4 11 rfl).trans ((fr2 fK3 11 rfl).trans ((fr2 fK2 11 rfl).trans (fr2 fK 11 rfl)))
        have k12 : K4.2 12 = upI (K.2 12) (16 * x + M.2 29 x) (K.1 210) := (fr2 fK4 12 rfl).trans ((fr2 fK3 12 rfl).trans ((fr2 fK2 12 rfl).trans (fr2 fK 12 rfl)))
        have m6 : M4.1 6 = M.1 6 := (fr1 fM4.1 6 rfl).trans ((fr1 fM3.1 6 rfl).trans ((fr1 fM2.1 6 rfl).trans (fr1 fM.1 6 rfl)))
        have m19 : M4.1 19 = M.1 19 := (fr1 fM4.1 19 rfl).trans ((fr1 fM3.1 19 rfl).trans ((fr1 fM2.1 19 rfl).trans (fr1 fM.1 19 rfl)))
        have m4 : M4.2 4 = M.2 4 := (fr2 fM4.1 4 rfl).trans ((fr2 fM3.1 4 rfl).trans ((fr2 fM2.1 4 rfl).trans (fr2 fM.1 4 rfl)))
        rw [e29, e30, e33, upI_s, cut_i (z := M.2 29 x + 1) (by omega) (by omega), cut_i (z := M.2 30 x + w) (by omega) (by omega)]
        refine RR_some (Or.inl ⟨rfl, hL4, ?_, ?_⟩)
        · show HDx (K4.2 10) (K4.2 11) (K4.2 12) (M4.1 6) (M4.1 19) (M4.2 4) (upI (M.2 29) x (M.2 29 x + 1)) (upI (M.2 30) x (M.2 30 x + w)) (M4.2 31) (M4.2 32) (M4.2 33)
          rw [k10, k11, k12, m6, m19, m4, e31, e32, e33]
          exact HD_new h hD g2 x0 x1 x12 (by omega) w0 w1
        · show upI (M.2 29) x (M.2 29 x + 1) x = i + 1
          rw [upI_s, hi]
      · obtain ⟨t1, t2, t3, -⟩ := d4 j j0 j1
        exact absurd ⟨by omega, (fld_iff h hD g2 x0 x1 j0 j1).mpr j2⟩ (r1 j j0 (by omega))
  · rw [if_neg h16, if_pos (show M.2 29 x = 16 by omega)]
    exact bad _ _ (thr_l (fail_1 _ _ _)) (RP_bnd (wrong_1 (by decide)) (n55 _))
end FLD2
