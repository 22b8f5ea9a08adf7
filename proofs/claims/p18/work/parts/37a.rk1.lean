/-! ===== headers, with how far they come and names that differ ===== -/
section HK1
variable {K M : mR}
theorem adv8 {K' : mR} (h : LR K' M) (h0 : M.1 7 ≠ 0) : RR (kf_tx_advance K') (rf_next M) (GV (fun _ _ _ M5 => M.1 8 + 1 ≤ M5.1 8)) := RR_w (adv_s h h0) (fun y z q => by
  rcases q with ⟨q0, q1, q2, q3, q4⟩ | q
  · exact Or.inl ⟨q0, q4⟩
  · exact Or.inr q)
theorem HU_new {x n w a b : Int} (hU : HU K M) (x0 : 0 ≤ x) (x1 : x < 12) (n0 : 0 ≤ n) (n1 : n < 16) (z0 : K.2 10 (16 * x + n) = 0) (r1 : ∀ j, 0 ≤ j → j < 16 → ¬ (0 < K.2 10 (16 * x + j) ∧ K.2 11 (16 * x + j) = a ∧ K.2 12 (16 * x + j) = b)) : HUx (upI (K.2 10) (16 * x + n) w) (upI (K.2 11) (16 * x + n) a) (upI (K.2 12) (16 * x + n) b) := by
  intro h i j h0 h1 i0 i1 j0 j1 ij p1 p2 p3
  by_cases ei : 16 * h + i = 16 * x + n
  · have eh : h = x := by omega
    subst eh
    have nj : 16 * h + j ≠ 16 * h + n := by omega
    rw [upI_n nj] at p2
    rw [ei, upI_s, upI_s, upI_n nj, upI_n nj] at p3
    exact r1 j j0 j1 ⟨p2, p3.1.symm, p3.2.symm⟩
  · by_cases ej : 16 * h + j = 16 * x + n
    · have eh : h = x := by omega
      subst eh
      rw [upI_n ei] at p1
      rw [ej, upI_s, upI_s, upI_n ei, upI_n ei] at p3
      exact r1 i i0 i1 ⟨p1, p3.1, p3.2⟩
    · rw [upI_n ei] at p1
      rw [upI_n ej] at p2
      rw [upI_n ei, upI_n ei, upI_n ej, upI_n ej] at p3
      exact hU h i j h0 h1 i0 i1 j0 j1 ij p1 p2 p3
theorem field_s (h : LR K M) (hD : HD K M) (hU : HU K M) {x i : Int} (x0 : 0 ≤ x) (x1 : x < M.1 19) (x12 : M.1 19 ≤ 12) (hi : i = M.2 29 x) : RR (kf_rd_field x i K) (rf_takeFieldOf x M) (GV (fun _ K2 _ M2 => LR K2 M2 ∧ HD K2 M2 ∧ M2.2 29 x = i + 1 ∧ M.1 8 + 1 ≤ M2.1 8 ∧ HU K2 M2)) := by
  have hX := h.2.1
  have hf := h.2.2.2.2
  obtain ⟨d1, d2, ⟨d3, d6, d7⟩, d4, d5⟩ := hD.1 x x0 x1
  have bad : ∀ (X : Option (Int × Int × mR)) (Y : Option (Int × mR)), RP X (fun y => y.1 ≠ 0) → RP Y (fun z => 0 < z.2.1 10) → RR X Y (GV (fun _ K2 _ M2 => LR K2 M2 ∧ HD K2 M2 ∧ M2.2 29 x = i + 1 ∧ M.1 8 + 1 ≤ M2.1 8 ∧ HU K2 M2)) := fun X Y h1 h2 => RR_w (RR_pr h1 h2) (fun _ _ q => Or.inr q)
  have n55 : ∀ v (z : Int × mR), 0 < z.2.1 10 → RP (rfl_takeFieldOf_55 x v z.2) (fun z => 0 < z.2.1 10) := fun v z hz => RP_w (u_rfl_takeFieldOf_55 x v z.2) (fun w hw => hw.2 hz)
  unfold kf_rd_field rf_takeFieldOf
  rw [if_pos (show M.1 10 ≤ 0 by omega), hX.1]
  refine RR_ii (wm_256 hX.2.1) (fun g1 g2 => ?_) (fun g1 g2 => bad _ _ (thr_l (refuse_1 _)) (RP_bnd (bad_1 M) (n55 _)))
  unfold kfl_rd_field_20
  by_cases h16 : i < 16
  · rw [if_pos h16, if_neg (show ¬ M.2 29 x = 16 by omega), cut_i (z := 16 * x) (by omega) (by omega), cut_i (z := 16 * x + M.2 29 x) (by omega) (by omega)]
    unfold kfl_rd_field_41 rfl_takeFieldOf_55
    rw [cut_i (z := 16 * x) (by omega) (by omega)]
    refine RR_l (fieldOf_k x0 (by omega)) (fun r hr => ?_)
    refine RR_r (fdl_r h hD g2 x0 x1 x12) (fun e he => ?_)
    rcases hr with ⟨r0, r1, r2, r3, r4⟩ | ⟨r0, r1⟩
    · rw [if_neg (by omega)]
      have rn : r < M.2 29 x := by
        apply Classical.byContradiction
        intro hn
        have := d5 r (by omega) r1
        omega
      rcases he with ⟨-, e2⟩ | ⟨e1, e2⟩
      · exact absurd ((fld_iff h hD g2 x0 x1 r0 rn).mp ⟨r3, r4⟩) (e2 r r0 rn)
      · exact bad _ _ (thr_l (fail_1 _ _ _)) (RP_w (u_rfl_takeFieldOf_106 x _ e) (fun w hw => hw.2 e1))
    · rw [if_pos r0]
      rcases he with ⟨e1, e2⟩ | ⟨e1, j, j0, j1, j2⟩
      · have e9 := e1.symm
        subst e9
        unfold kfl_rd_field_82 rfl_takeFieldOf_106
        rw [if_pos (show M.1 10 ≤ 0 by omega), cut_i (z := x * 16) (by omega) (by omega), cut_i (z := x * 16 + i) (by omega) (by omega), show x * 16 + i = 16 * x + M.2 29 x by omega]
        have hL' : LR (mO K [] [(11, upI (K.2 11) (16 * x + M.2 29 x) (K.1 209)), (12, upI (K.2 12) (16 * x + M.2 29 x) (K.1 210))]) (mO M [] [(31, upI (M.2 31) (16 * x + M.2 29 x) (M.1 8)), (32, upI (M.2 32) (16 * x + M.2 29 x) (M.1 9))]) := h
        refine RR_sq (A := fun q => fr kF_tx_advance kA_tx_advance (mO K [] [(11, upI (K.2 11) (16 * x + M.2 29 x) (K.1 209)), (12, upI (K.2 12) (16 * x + M.2 29 x) (K.1 210))]) q) (B := fun q => UR rF_next rA_next (mO M [] [(31, upI (M.2 31) (16 * x + M.2 29 x) (M.1 8)), (32, upI (M.2 32) (16 * x + M.2 29 x) (M.1 9))]) q) (RR_an (LV_G (rr_adv hL' (show M.1 7 ≠ 0 by omega))) (adv8 hL' (show M.1 7 ≠ 0 by omega))) (u_kf_tx_advance _) (u_rf_next _) (fun z hz => RP_w (u_rfl_takeFieldOf_138 x _ z.2) (fun w hw => hw.2 hz)) (fun a K1 b M1 hG fK fM => ?_)
        obtain ⟨⟨-, hL1⟩, p1⟩ := hG
        unfold rfl_takeFieldOf_138
        dsimp only
        refine RR_sq (A := fun q => fr kF_tx_expect kA_tx_expect K1 q) (B := fun q => UR rF_need rA_need M1 q) (RR_an (LV_G (rr_exp hL1 (c := 58) (by omega))) (exp8 hL1 (c := 58) (by omega))) (u_kf_tx_expect _ _) (u_rf_need _ _) (fun z hz => RP_w (u_rfl_takeFieldOf_144 x _ z.2) (fun w hw => hw.2 hz)) (fun a2 K2 b2 M2 hG fK2 fM2 => ?_)
        obtain ⟨⟨-, hL2⟩, -, p2⟩ := hG
        unfold rfl_takeFieldOf_144
        dsimp only
        refine RR_sq (A := fun q => fr kF_tx_within kA_tx_within K2 q) (B := fun q => UR rF_number rA_number M2 q) (RR_an (LV_G (rr_num hL2 (a := 1) (b := 64) (by omega))) (num8 hL2)) (u_kf_tx_within _ _ K2) (u_rf_number _ _ M2) (fun z hz => RP_w (u_rfl_takeFieldOf_156 x _ _ z.1 z.2) (fun w hw => hw.2 hz)) (fun w K3 b3 M3 hG fK3 fM3 => ?_)
        obtain ⟨⟨⟨e3, w0, w1⟩, hL3⟩, -, p3⟩ := hG
        unfold rfl_takeFieldOf_156
        dsimp only
        rw [← e3]
        have hL3' : LR (mO K3 [] [(10, upI (K3.2 10) (16 * x + M.2 29 x) w)]) (mO M3 [] [(33, upI (M3.2 33) (16 * x + M.2 29 x) w)]) := hL3
        refine RR_sq (A := fun q => fr kF_tx_expect kA_tx_expect (mO K3 [] [(10, upI (K3.2 10) (16 * x + M.2 29 x) w)]) q) (B := fun q => UR rF_need rA_need (mO M3 [] [(33, upI (M3.2 33) (16 * x + M.2 29 x) w)]) q) (RR_an (LV_G (rr_exp hL3' (c := 59) (by omega))) (exp8 hL3' (c := 59) (by omega))) (u_kf_tx_expect _ _) (u_rf_need _ _) (fun z hz => RP_w (u_rfl_takeFieldOf_163 x _ z.2) (fun w hw => hw.2 hz)) (fun a4 K4 b4 M4 hG fK4 fM4 => ?_)
        obtain ⟨⟨-, hL4⟩, -, p4⟩ := hG
        unfold rfl_takeFieldOf_163
        dsimp only
        have e29 : M4.2 29 = M.2 29 := (fr2 fM4.1 29 rfl).trans ((fr2 fM3.1 29 rfl).trans ((fr2 fM2.1 29 rfl).trans (fr2 fM.1 29 rfl)))
        have e30 : M4.2 30 = M.2 30 := (fr2 fM4.1 30 rfl).trans ((fr2 fM3.1 30 rfl).trans ((fr2 fM2.1 30 rfl).trans (fr2 fM.1 30 rfl)))
        have e31 : M4.2 31 = upI (M.2 31) (16 * x + M.2 29 x) (M.1 8) := (fr2 fM4.1 31 rfl).trans ((fr2 fM3.1 31 rfl).trans ((fr2 fM2.1 31 rfl).trans (fr2 fM.1 31 rfl)))
        have e32 : M4.2 32 = upI (M.2 32) (16 * x + M.2 29 x) (M.1 9) := (fr2 fM4.1 32 rfl).trans ((fr2 fM3.1 32 rfl).trans ((fr2 fM2.1 32 rfl).trans (fr2 fM.1 32 rfl)))
        have e33' : M3.2 33 = M.2 33 := (fr2 fM3.1 33 rfl).trans ((fr2 fM2.1 33 rfl).trans (fr2 fM.1 33 rfl))
        have e33 : M4.2 33 = upI (M.2 33) (16 * x + M.2 29 x) w := (fr2 fM4.1 33 rfl).trans (by show upI (M3.2 33) _ w = _; rw [e33'])
        have k10' : K3.2 10 = K.2 10 := (fr2 fK3 10 rfl).trans ((fr2 fK2 10 rfl).trans (fr2 fK 10 rfl))
        have k10 : K4.2 10 = upI (K.2 10) (16 * x + M.2 29 x) w := (fr2 fK4 10 rfl).trans (by show upI (K3.2 10) _ w = _; rw [k10'])
        have k11 : K4.2 11 = upI (K.2 11) (16 * x + M.2 29 x) (K.1 209) := (fr2 fK4 11 rfl).trans ((fr2 fK3 11 rfl).trans ((fr2 fK2 11 rfl).trans (fr2 fK 11 rfl)))
        have k12 : K4.2 12 = upI (K.2 12) (16 * x + M.2 29 x) (K.1 210) := (fr2 fK4 12 rfl).trans ((fr2 fK3 12 rfl).trans ((fr2 fK2 12 rfl).trans (fr2 fK 12 rfl)))
        have m6 : M4.1 6 = M.1 6 := (fr1 fM4.1 6 rfl).trans ((fr1 fM3.1 6 rfl).trans ((fr1 fM2.1 6 rfl).trans (fr1 fM.1 6 rfl)))
        have m19 : M4.1 19 = M.1 19 := (fr1 fM4.1 19 rfl).trans ((fr1 fM3.1 19 rfl).trans ((fr1 fM2.1 19 rfl).trans (fr1 fM.1 19 rfl)))
        have m4 : M4.2 4 = M.2 4 := (fr2 fM4.1 4 rfl).trans ((fr2 fM3.1 4 rfl).trans ((fr2 fM2.1 4 rfl).trans (fr2 fM.1 4 rfl)))
        rw [e29, e30, e33, upI_s, cut_i (z := M.2 29 x + 1) (by omega) (by omega), cut_i (z := M.2 30 x + w) (by omega) (by omega)]
        refine RR_some (Or.inl ⟨rfl, hL4, ?_, ?_, ?_, ?_⟩)
        · show HDx (K4.2 10) (K4.2 11) (K4.2 12) (M4.1 6) (M4.1 19) (M4.2 4) (upI (M.2 29) x (M.2 29 x + 1)) (upI (M.2 30) x (M.2 30 x + w)) (M4.2 31) (M4.2 32) (M4.2 33)
          rw [k10, k11, k12, m6, m19, m4, e31, e32, e33]
          exact HD_new h hD g2 x0 x1 x12 (by omega) w0 w1
        · show upI (M.2 29) x (M.2 29 x + 1) x = i + 1
          rw [upI_s, hi]
        · have p1 : M.1 8 + 1 ≤ M1.1 8 := p1
          have p4 : M3.1 8 + 1 ≤ M4.1 8 := p4
          show M.1 8 + 1 ≤ M4.1 8
          omega
        · show HUx (K4.2 10) (K4.2 11) (K4.2 12)
          rw [k10, k11, k12]
          exact HU_new hU x0 (by omega) (by omega) (by omega) (d5 _ (by omega) (by omega)) r1
      · obtain ⟨t1, t2, t3, -⟩ := d4 j j0 j1
        exact absurd ⟨by omega, (fld_iff h hD g2 x0 x1 j0 j1).mpr j2⟩ (r1 j j0 (by omega))
  · rw [if_neg h16, if_pos (show M.2 29 x = 16 by omega)]
    exact bad _ _ (thr_l (fail_1 _ _ _)) (RP_bnd (wrong_1 (by decide)) (n55 _))
def hdI2 (b x : Int) (s t : Int × mR) : Prop := hdI x s t ∧ HU s.2 t.2 ∧ b ≤ t.2.1 8
def hdE2 (b x : Int) (u : Sum mR (Int × mR)) (y : mR) : Prop := sel (fun K => ((LR K y ∧ HD K y ∧ y.1 19 = x + 1 ∧ y.1 7 = 125) ∧ HU K y ∧ b ≤ y.1 8) ∨ (K.1 206 ≠ 125 ∧ 0 < y.1 10)) (fun e => e.1 ≠ 0 ∧ 0 < y.1 10) u
theorem hdr_loop2 {b x p q : Int} (x0 : 0 ≤ x) (x1 : x < 12) {s t : Int × mR} (hI : hdI2 b x s t) : RR (whl (kfb_rd_header_60 x p) s) (whl (rfb_takeHeader_61 q x) t) (hdE2 b x) := by
  refine RR_whl2 (I := hdI2 b x) (fun s t hI => ?_) hI
  obtain ⟨i, K⟩ := s
  obtain ⟨more, M⟩ := t
  obtain ⟨⟨hL, hD, h19, hi, i0, i1, hc⟩, hU, hb⟩ := hI
  have hU : HU K M := hU
  have hb : b ≤ M.1 8 := hb
  have hL : LR K M := hL
  have hD : HD K M := hD
  have h19 : M.1 19 = x + 1 := h19
  have hi : i = M.2 29 x := hi
  have i0 : 0 ≤ i := i0
  have i1 : i ≤ 16 := i1
  have hX := hL.2.1
  have hf := hL.2.2.2.2
  unfold kfb_rd_header_60 rfb_takeHeader_61
  show RR (if (16 : Int) < i then some (Sum.inr (Sum.inl K)) else if i = 0 then kfl_rd_header_83 x p i K else if K.1 206 = 256 then kfl_rd_header_83 x p i K else some (Sum.inr (Sum.inl K))) (if more = 0 then some (Sum.inr M) else if M.1 10 = 0 then bnd (rf_takeFieldOf x M) fun y16 => rfl_takeHeader_77 q x y16.2 else some (Sum.inr M)) _
  rw [if_neg (by omega)]
  -- a fault ends the reference's loop
  have dead : ∀ (z : Int × mR), 0 < z.2.1 10 → RP (whl (rfb_takeHeader_61 q x) z) (fun y => 0 < y.1 10) := fun z hz => RP_w (uw_rfb_takeHeader_61 q x z) (fun w hw => hw.2 hz)
  have r77 : ∀ (z : Int × mR), 0 < z.2.1 10 → rfl_takeHeader_77 q x z.2 = some (Sum.inl (0, z.2)) := by
    intro z hz
    unfold rfl_takeHeader_77 rfl_takeHeader_97 rfl_takeHeader_98
    rw [if_neg (by omega)]
  rcases hc with ⟨c1, c2⟩ | ⟨c1, c2, c3⟩
  · have c1 : more = 1 := c1
    have c2 : i = 0 ∨ M.1 7 ≠ 125 := c2
    rw [if_neg (show ¬ more = 0 by omega), if_pos hf]
    have fieldcase : RR (kfl_rd_header_83 x p i K) (bnd (rf_takeFieldOf x M) fun y16 => rfl_takeHeader_77 q x y16.2) (fun u v => (∃ s' t', u = .inl s' ∧ v = .inl t' ∧ hdI2 b x s' t') ∨ (∃ x' y, u = .inr x' ∧ v = .inr y ∧ hdE2 b x x' y) ∨ (∃ x' t', u = .inr x' ∧ v = .inl t' ∧ RP (whl (rfb_takeHeader_61 q x) t') (hdE2 b x x')) ∨ (∃ s' y, u = .inl s' ∧ v = .inr y ∧ RP (whl (kfb_rd_header_60 x p) s') (fun x' => hdE2 b x x' y))) := by
      unfold kfl_rd_header_83
      have f19 : RP (rf_takeFieldOf x M) (fun z => z.2.1 19 = M.1 19) := RP_w (u_rf_takeFieldOf x M) (fun z hz => fr1 hz.1 19 rfl)
      intro u v hu hv
      cases hk : kf_rd_field x i K with
      | none => rw [hk] at hu; cases hu
      | some y =>
        cases hm : rf_takeFieldOf x M with
        | none => rw [hm] at hv; cases hv
        | some z =>
          rw [hk, bnd_some] at hu
          rw [hm, bnd_some] at hv
          have z19 := f19 z hm
          rcases field_s hL hD hU x0 (by omega) (by omega) hi y z hk hm with ⟨e1, e2, e3, e4, e5, e6⟩ | ⟨e1, e2⟩
          · rw [if_pos e1] at hu
            cases hu
            have zf := e2.2.2.2.2
            have hi16 : i < 16 := by
              have := (e3.1 x x0 (by omega)).2.1
              omega
            rw [cut_i (by omega) (by omega)]
            unfold rfl_takeHeader_77 rfl_takeHeader_97 rfl_takeHeader_98 at hv
            rw [if_pos zf] at hv
            by_cases hw : z.2.1 7 = 125
            · rw [if_pos hw] at hv
              cases hv
              exact Or.inl ⟨_, _, rfl, rfl, ⟨e2, e3, z19.trans h19, e4.symm, by show 0 ≤ i + 1; omega, by show i + 1 ≤ 16; omega, Or.inr ⟨rfl, by show i + 1 ≠ 0; omega, hw⟩⟩, e6, by show b ≤ z.2.1 8; omega⟩
            · rw [if_neg hw] at hv
              cases hv
              exact Or.inl ⟨_, _, rfl, rfl, ⟨e2, e3, z19.trans h19, e4.symm, by show 0 ≤ i + 1; omega, by show i + 1 ≤ 16; omega, Or.inl ⟨rfl, Or.inr hw⟩⟩, e6, by show b ≤ z.2.1 8; omega⟩
          · rw [if_neg e1] at hu
            cases hu
            rw [r77 z e2] at hv
            cases hv
            exact Or.inr (Or.inr (Or.inl ⟨_, _, rfl, rfl, RP_w (dead (0, z.2) e2) (fun y hy => ⟨e1, hy⟩)⟩))
    by_cases h0 : i = 0
    · rw [if_pos h0]
      exact fieldcase
    · rw [if_neg h0, hX.1]
      by_cases hn : M.1 7 = 1
      · rw [if_pos ((wm_256 hX.2.1).mpr hn)]
        exact fieldcase
      · rw [if_neg (fun g => hn ((wm_256 hX.2.1).mp g))]
        intro u v hu hv
        cases hu
        cases hm : rf_takeFieldOf x M with
        | none => rw [hm] at hv; cases hv
        | some z =>
          rw [hm, bnd_some] at hv
          have zf : 0 < z.2.1 10 := by
            refine (?_ : RP (rf_takeFieldOf x M) (fun z => 0 < z.2.1 10)) z hm
            unfold rf_takeFieldOf
            rw [if_pos (show M.1 10 ≤ 0 by omega), if_neg hn]
            exact RP_bnd (bad_1 M) (fun z hz => RP_w (u_rfl_takeFieldOf_55 x _ z.2) (fun w hw => hw.2 hz))
          rw [r77 z zf] at hv
          cases hv
          have hw : M.1 7 ≠ 125 := by
            rcases c2 with c2 | c2
            · exact absurd c2 h0
            · exact c2
          refine Or.inr (Or.inr (Or.inl ⟨_, _, rfl, rfl, RP_w (dead (0, z.2) zf) (fun y hy => Or.inr ⟨?_, hy⟩)⟩))
          rw [hX.1]
          exact fun g => hw ((wm_big hX.2.1 (by omega)).mp g)
  · have c1 : more = 0 := c1
    have c2 : i ≠ 0 := c2
    have c3 : M.1 7 = 125 := c3
    rw [if_pos c1, if_neg c2, hX.1, if_neg (fun g => by have := (wm_256 hX.2.1).mp g; omega)]
    intro u v hu hv
    cases hu
    cases hv
    exact Or.inr (Or.inl ⟨_, _, rfl, rfl, Or.inl ⟨⟨hL, hD, h19, c3⟩, hU, hb⟩⟩)
theorem header_s (h : LR K M) (hC : CNq K M) (hD : HD K M) (hU : HU K M) (h7 : M.1 7 = 300) : RR (kf_rd_header K) (rf_takeHeader M) (GV (fun _ K2 _ M2 => LR K2 M2 ∧ HD K2 M2 ∧ M.1 19 < 12 ∧ M2.1 19 = M.1 19 + 1 ∧ HU K2 M2 ∧ M.1 8 + 1 ≤ M2.1 8 ∧ K2.1 214 = M.1 19 + 1 ∧ M2.1 13 = M.1 13 + 1 ∧ M2.2 16 = upI (M.2 16) (M.1 13) 1 ∧ M2.2 17 = upI (M.2 17) (M.1 13) (M.1 19))) := by
  obtain ⟨⟨c1, c2, c3, c4, c5, c6, c7, c8⟩, r1, r2, r3, r4, r5, r6, r7, r8, hsum⟩ := id hC
  unfold kf_rd_header rf_takeHeader
  refine RR_sq (A := fun q => fr kF_tx_advance kA_tx_advance K q) (B := fun q => UR rF_next rA_next M q) (RR_an (LV_G (rr_adv h (by omega))) (adv8 h (by omega))) (u_kf_tx_advance K) (u_rf_next M) (fun z hz => RP_w (u_rfl_takeHeader_4 z.2) (fun w hw => hw.2 hz)) (fun a K1 b M1 hG fK fM => ?_)
  obtain ⟨⟨-, hL1⟩, o1⟩ := hG
  unfold rfl_takeHeader_4
  dsimp only
  have q1 : K1.1 214 = M.1 19 := (fr1 fK 214 rfl).trans c1
  have q2 : M1.1 19 = M.1 19 := fr1 fM.1 19 rfl
  have q3 : M1.1 13 = M.1 13 := fr1 fM.1 13 rfl
  rw [q1, q2, show (300 : Int) = smp 1 from rfl]
  refine RR_sq (A := fun q => fr kF_tx_makeNew kA_tx_makeNew K1 q) (B := fun q => UR rF_newName rA_newName M1 q ∧ (0 < q.1 10 ∨ M1.1 8 + 1 ≤ q.1 8)) (rr_newG hL1 (s := 1) (n := M.1 19) (b := 12) (by omega) (by omega) (by omega)) (u_kf_tx_makeNew _ _ _ K1) (fun z hz => ⟨u_rf_newName _ _ _ M1 z hz, newN_8 hL1 z hz⟩) (fun z hz => RP_w (u_rfl_takeHeader_20 _ z.1 z.2) (fun w hw => hw.2 hz)) (fun a2 K2 b2 M2 hG fK2 fM2 => ?_)
  obtain ⟨hb, hlt, hL2, n1, n2, n3⟩ := hG
  have o2 : M1.1 8 + 1 ≤ M2.1 8 := by
    rcases fM2.2 with q | q
    · have := hL2.2.2.2.2
      omega
    · exact q
  have fM2 := fM2.1
  unfold rfl_takeHeader_20
  dsimp only
  have q4 : K2.1 214 = M.1 19 := (fr1 fK2 214 rfl).trans q1
  have q5 : M2.1 19 = M.1 19 := (fr1 fM2.1 19 rfl).trans q2
  rw [if_neg (by omega), q4, q5, cut_i (by omega) (by omega)]
  have hL2' : LR (mO K2 [(214, M.1 19 + 1)] []) (mO M2 [(19, M.1 19 + 1)] [(29, upI (M2.2 29) (M.1 19) 0), (30, upI (M2.2 30) (M.1 19) 0)]) := hL2
  refine RR_sq (A := fun q => fr kF_tx_expect kA_tx_expect (mO K2 [(214, M.1 19 + 1)] []) q) (B := fun q => UR rF_need rA_need (mO M2 [(19, M.1 19 + 1)] [(29, upI (M2.2 29) (M.1 19) 0), (30, upI (M2.2 30) (M.1 19) 0)]) q) (RR_an (LV_G (rr_exp hL2' (c := 123) (by omega))) (exp8 hL2' (c := 123) (by omega))) (u_kf_tx_expect _ _) (u_rf_need _ _) (fun z hz => RP_w (u_rfl_takeHeader_59 _ _ z.2) (fun w hw => hw.2 hz)) (fun a3 K3 b3 M3 hG fK3 fM3 => ?_)
  obtain ⟨⟨-, hL3⟩, -, o3⟩ := hG
  have o3 : M2.1 8 + 1 ≤ M3.1 8 := o3
  unfold rfl_takeHeader_59
  dsimp only
  have hD3 : HD K3 M3 := by
    have k10 : K3.2 10 = K.2 10 := (fr2 fK3 10 rfl).trans ((fr2 fK2 10 rfl).trans (fr2 fK 10 rfl))
    have k11 : K3.2 11 = K.2 11 := (fr2 fK3 11 rfl).trans ((fr2 fK2 11 rfl).trans (fr2 fK 11 rfl))
    have k12 : K3.2 12 = K.2 12 := (fr2 fK3 12 rfl).trans ((fr2 fK2 12 rfl).trans (fr2 fK 12 rfl))
    have m6 : M3.1 6 = M.1 6 := (fr1 fM3.1 6 rfl).trans ((fr1 fM2.1 6 rfl).trans (fr1 fM.1 6 rfl))
    have m19 : M3.1 19 = M.1 19 + 1 := fr1 fM3.1 19 rfl
    have m4 : M3.2 4 = M.2 4 := (fr2 fM3.1 4 rfl).trans ((fr2 fM2.1 4 rfl).trans (fr2 fM.1 4 rfl))
    have e29 : M2.2 29 = M.2 29 := (fr2 fM2.1 29 rfl).trans (fr2 fM.1 29 rfl)
    have e30 : M2.2 30 = M.2 30 := (fr2 fM2.1 30 rfl).trans (fr2 fM.1 30 rfl)
    have m29 : M3.2 29 = upI (M.2 29) (M.1 19) 0 := (fr2 fM3.1 29 rfl).trans (by show upI (M2.2 29) _ _ = _; rw [e29])
    have m30 : M3.2 30 = upI (M.2 30) (M.1 19) 0 := (fr2 fM3.1 30 rfl).trans (by show upI (M2.2 30) _ _ = _; rw [e30])
    have m31 : M3.2 31 = M.2 31 := (fr2 fM3.1 31 rfl).trans ((fr2 fM2.1 31 rfl).trans (fr2 fM.1 31 rfl))
    have m32 : M3.2 32 = M.2 32 := (fr2 fM3.1 32 rfl).trans ((fr2 fM2.1 32 rfl).trans (fr2 fM.1 32 rfl))
    have m33 : M3.2 33 = M.2 33 := (fr2 fM3.1 33 rfl).trans ((fr2 fM2.1 33 rfl).trans (fr2 fM.1 33 rfl))
    unfold HD
    rw [k10, k11, k12, m6, m19, m4, m29, m30, m31, m32, m33]
    exact HD_open hD r1.1 hlt
  have m19 : M3.1 19 = M.1 19 + 1 := fr1 fM3.1 19 rfl
  have m29 : M3.2 29 (M.1 19) = 0 := by
    have e : M3.2 29 = upI (M2.2 29) (M.1 19) 0 := fr2 fM3.1 29 rfl
    rw [e, upI_s]
  have fKK : fr [203, 205, 206, 207, 208, 209, 210, 211, 212, 214] [6, 7, 8, 9] K K3 := fr_s fK3 (fr_m (fr_s fK2 (fr_s fK fr_0 rfl rfl) rfl rfl) rfl rfl) rfl rfl
  have hU3 : HU K3 M3 := by
    unfold HU
    rw [fr2 fKK 10 rfl, fr2 fKK 11 rfl, fr2 fKK 12 rfl]
    exact hU
  have k214 : K3.1 214 = M.1 19 + 1 := fr1 fK3 214 rfl
  have t13 : M3.1 13 = M.1 13 + 1 := (fr1 fM3.1 13 rfl).trans (n1.trans (by rw [q3]))
  have t16 : M3.2 16 = upI (M.2 16) (M.1 13) 1 := (fr2 fM3.1 16 rfl).trans (n2.trans (by rw [q3, fr2 fM.1 16 rfl]))
  have t17 : M3.2 17 = upI (M.2 17) (M.1 13) (M.1 19) := (fr2 fM3.1 17 rfl).trans (n3.trans (by rw [q3, fr2 fM.1 17 rfl]))
  refine RR_bnd (P := fun u e => hdE2 (M.1 8 + 1) (M.1 19) u e ∧ UR F_rfb_takeHeader_61 A_rfb_takeHeader_61 M3 e ∧ sel (fun z : mR => fr F_kfb_rd_header_60 A_kfb_rd_header_60 K3 z) (fun z : Int × mR => fr F_kfb_rd_header_60 A_kfb_rd_header_60 K3 z.2) u) (fun u e hu he => ⟨hdr_loop2 (b := M.1 8 + 1) r1.1 hlt (s := (0, K3)) (t := (1, M3)) ⟨⟨hL3, hD3, m19, m29.symm, show (0 : Int) ≤ 0 by decide, show (0 : Int) ≤ 16 by decide, Or.inl ⟨rfl, Or.inl rfl⟩⟩, hU3, by show M.1 8 + 1 ≤ M3.1 8; omega⟩ u e hu he, uw_rfb_takeHeader_61 _ _ _ e he, uw_kfb_rd_header_60 _ _ _ u hu⟩) (fun u e hE => ?_)
  obtain ⟨hE, uE, uK⟩ := hE
  have bad : ∀ (X : Option (Int × Int × mR)) (Y : Option (Int × mR)), RP X (fun y => y.1 ≠ 0) → RP Y (fun z => 0 < z.2.1 10) → RR X Y (GV (fun _ K2 _ M2 => LR K2 M2 ∧ HD K2 M2 ∧ M.1 19 < 12 ∧ M2.1 19 = M.1 19 + 1 ∧ HU K2 M2 ∧ M.1 8 + 1 ≤ M2.1 8 ∧ K2.1 214 = M.1 19 + 1 ∧ M2.1 13 = M.1 13 + 1 ∧ M2.2 16 = upI (M.2 16) (M.1 13) 1 ∧ M2.2 17 = upI (M.2 17) (M.1 13) (M.1 19))) := fun X Y h1 h2 => RR_w (RR_pr h1 h2) (fun _ _ q => Or.inr q)
  have dead : ∀ v, 0 < e.1 10 → RP (rfl_takeHeader_102 v (M.1 19) e) (fun z => 0 < z.2.1 10) := fun v hz => RP_w (u_rfl_takeHeader_102 v (M.1 19) e) (fun w hw => hw.2 hz)
  cases u with
  | inr t => exact bad _ _ (RP_some hE.1) (dead _ hE.2)
  | inl K4 =>
    rcases hE with ⟨⟨hL4, hD4, e19, e7⟩, hU4, hb4⟩ | ⟨hw, hf⟩
    · have hX := hL4.2.1
      have hf := hL4.2.2.2.2
      show RR (kfl_rd_header_95 _ _ K4) _ _
      unfold kfl_rd_header_95 rfl_takeHeader_102
      rw [hX.1, if_pos ((wm_big hX.2.1 (by omega)).mpr e7), if_pos hf]
      unfold kfl_rd_header_114
      obtain ⟨d1, d2, ⟨d3, d6, d7⟩, d4, d5⟩ := hD4.1 (M.1 19) r1.1 (by omega)
      refine RR_l (hbits_k r1.1 hlt (fun i i0 i1 => ?_)) (fun bits hbits => ?_)
      · by_cases hi : i < e.2 29 (M.1 19)
        · obtain ⟨t1, t2, t3, -⟩ := d4 i i0 hi
          omega
        · have := d5 i (by omega) i1
          omega
      · rw [hbits, ← d3]
        have b133 : RR (kfl_rd_header_137 (K1.1 207) K4) (rfl_takeHeader_133 (M1.1 8) e) (GV (fun _ K2 _ M2 => LR K2 M2 ∧ HD K2 M2 ∧ M.1 19 < 12 ∧ M2.1 19 = M.1 19 + 1 ∧ HU K2 M2 ∧ M.1 8 + 1 ≤ M2.1 8 ∧ K2.1 214 = M.1 19 + 1 ∧ M2.1 13 = M.1 13 + 1 ∧ M2.2 16 = upI (M.2 16) (M.1 13) 1 ∧ M2.2 17 = upI (M.2 17) (M.1 13) (M.1 19))) := by
          unfold kfl_rd_header_137 rfl_takeHeader_133
          exact bad _ _ (thr_l (fail_1 _ _ _)) (RP_bnd (wrong_1 (by decide)) (fun z hz => RP_w (u_rfl_takeHeader_140 z.2) (fun w hw => hw.2 hz)))
        refine RR_ii Iff.rfl (fun _ _ => ?_) (fun _ _ => b133)
        refine RR_ii Iff.rfl (fun _ _ => ?_) (fun _ _ => b133)
        unfold kfl_rd_header_147 rfl_takeHeader_140
        rw [need_is (show e.1 10 ≤ 0 by omega) e7]
        intro y z hy hz
        cases hk : kf_tx_advance K4 with
        | none => rw [hk] at hy; cases hy
        | some y1 =>
          cases hm : rf_next e with
          | none => rw [hm] at hz; cases hz
          | some z1 =>
            rw [hk, bnd_some] at hy
            rw [hm, bnd_some, bnd_some] at hz
            have f1 := u_kf_tx_advance K4 y1 hk
            have f2 := (u_rf_next e z1 hm).1
            cases hz
            have a8 := adv8 hL4 (by omega) y1 z1 hk hm
            rcases rr_adv hL4 (by omega) y1 z1 hk hm with ⟨g1, g2, g3⟩ | ⟨g1, g2⟩
            · rw [if_pos g1] at hy
              cases hy
              have a8 : e.1 8 + 1 ≤ z1.2.1 8 := by
                rcases a8 with ⟨-, q⟩ | ⟨q, -⟩
                · exact q
                · exact absurd g1 q
              have uK : fr F_kfb_rd_header_60 A_kfb_rd_header_60 K3 K4 := uK
              exact Or.inl ⟨rfl, g3, HD_f f1 f2 rfl rfl rfl rfl hD4, hlt, (fr1 f2 19 rfl).trans e19, HU_f f1 f2 rfl rfl rfl rfl hU4, by show M.1 8 + 1 ≤ z1.2.1 8; omega, (fr1 f1 214 rfl).trans ((fr1 uK 214 rfl).trans k214), (fr1 f2 13 rfl).trans ((fr1 uE.1 13 rfl).trans t13), (fr2 f2 16 rfl).trans ((fr2 uE.1 16 rfl).trans t16), (fr2 f2 17 rfl).trans ((fr2 uE.1 17 rfl).trans t17)⟩
            · rw [if_neg g1] at hy
              cases hy
              exact Or.inr ⟨g1, g2⟩
    · show RR (kfl_rd_header_95 _ _ K4) _ _
      unfold kfl_rd_header_95
      rw [if_neg hw]
      exact bad _ _ (thr_l (refuse_1 _)) (dead _ hf)
end HK1
