def rF_takeElse : List Nat := [7, 8, 9, 10, 11, 12]
def rA_takeElse : List Nat := [57, 115]
def F_rfl_takeElse_199 : List Nat := []
def A_rfl_takeElse_199 : List Nat := [57]
theorem u_rfl_takeElse_199 (v1 : Int) (v3 : Int) (m : mR) : RP (rfl_takeElse_199 v1 v3 m) (fun z : Int × mR => UR F_rfl_takeElse_199 A_rfl_takeElse_199 m z.2) := by
  unfold rfl_takeElse_199
  exact RP_some (UR_m UR_0 rfl rfl (fun h => h))
def F_rfl_takeElse_193 : List Nat := [7, 8, 9, 10, 11, 12]
def A_rfl_takeElse_193 : List Nat := [57]
theorem u_rfl_takeElse_193 (v1 : Int) (v3 : Int) (m : mR) : RP (rfl_takeElse_193 v1 v3 m) (fun z : Int × mR => UR F_rfl_takeElse_193 A_rfl_takeElse_193 m z.2) := by
  unfold rfl_takeElse_193
  refine RP_bnd (u_rf_need 59 m) (fun y3 h1 => ?_)
  have h2 : UR F_rfl_takeElse_193 A_rfl_takeElse_193 m y3.2 := (UR_s h1 UR_0 rfl rfl)
  exact RP_w (u_rfl_takeElse_199 v1 v3 y3.2) (fun z hz => (UR_s hz h2 rfl rfl))
def F_rfl_takeElse_187 : List Nat := [7, 8, 9, 10, 11, 12]
def A_rfl_takeElse_187 : List Nat := [57]
theorem u_rfl_takeElse_187 (v1 : Int) (v3 : Int) (m : mR) : RP (rfl_takeElse_187 v1 v3 m) (fun z : Int × mR => UR F_rfl_takeElse_187 A_rfl_takeElse_187 m z.2) := by
  unfold rfl_takeElse_187
  refine RP_bnd (u_rf_need 41 m) (fun y6 h1 => ?_)
  have h2 : UR F_rfl_takeElse_187 A_rfl_takeElse_187 m y6.2 := (UR_s h1 UR_0 rfl rfl)
  exact RP_w (u_rfl_takeElse_193 v1 v3 y6.2) (fun z hz => (UR_s hz h2 rfl rfl))
def F_rfl_takeElse_153 : List Nat := [7, 8, 9, 10, 11, 12]
def A_rfl_takeElse_153 : List Nat := [57]
theorem u_rfl_takeElse_153 (v1 : Int) (v2 : Int) (v3 : Int) (v4 : Int) (m : mR) : RP (rfl_takeElse_153 v1 v2 v3 v4 m) (fun z : Int × mR => UR F_rfl_takeElse_153 A_rfl_takeElse_153 m z.2) := by
  unfold rfl_takeElse_153
  refine RP_ite (fun h1 => ?_) (fun h1 => ?_)
  · skip
    refine RP_ite (fun h2 => ?_) (fun h2 => ?_)
    · skip
      refine RP_ite (fun h3 => ?_) (fun h3 => ?_)
      · skip
        exact RP_w (u_rfl_takeElse_187 v1 v3 m) (fun z hz => (UR_s hz UR_0 rfl rfl))
      · skip
        refine RP_bnd (u_rf_wrong 8 v2 m) (fun y12 h4 => ?_)
        have h5 : UR F_rfl_takeElse_153 A_rfl_takeElse_153 m y12.2 := (UR_s h4 UR_0 rfl rfl)
        exact RP_w (u_rfl_takeElse_187 v1 v3 y12.2) (fun z hz => (UR_s hz h5 rfl rfl))
    · skip
      exact RP_w (u_rfl_takeElse_187 v1 v3 m) (fun z hz => (UR_s hz UR_0 rfl rfl))
  · skip
    exact RP_w (u_rfl_takeElse_187 v1 v3 m) (fun z hz => (UR_s hz UR_0 rfl rfl))
def F_rfl_takeElse_150 : List Nat := []
def A_rfl_takeElse_150 : List Nat := []
theorem u_rfl_takeElse_150 (v1 : Int) (v2 : Int) (v3 : Int) (v4 : Int) (v5 : Int) (m : mR) : RP (rfl_takeElse_150 v1 v2 v3 v4 v5 m) (sel (fun z : (Int × Int × mR) => UR F_rfl_takeElse_150 A_rfl_takeElse_150 m z.2.2) (fun z : Int × mR => UR F_rfl_takeElse_150 A_rfl_takeElse_150 m z.2)) := by
  unfold rfl_takeElse_150
  exact RP_some UR_0
def F_rfl_takeElse_139 : List Nat := [7, 8, 9, 10, 11, 12]
def A_rfl_takeElse_139 : List Nat := []
theorem u_rfl_takeElse_139 (v1 : Int) (v2 : Int) (v3 : Int) (v4 : Int) (u0 : Int) (m : mR) : RP (rfl_takeElse_139 v1 v2 v3 v4 u0 m) (sel (fun z : (Int × Int × mR) => UR F_rfl_takeElse_139 A_rfl_takeElse_139 m z.2.2) (fun z : Int × mR => UR F_rfl_takeElse_139 A_rfl_takeElse_139 m z.2)) := by
  unfold rfl_takeElse_139
  refine RP_ite (fun h1 => ?_) (fun h1 => ?_)
  · skip
    exact RP_w (u_rfl_takeElse_150 v1 v2 v3 v4 u0 m) (sl_w (fun z hz => (UR_s hz UR_0 rfl rfl)) (fun z hz => (UR_s hz UR_0 rfl rfl)))
  · skip
    refine RP_bnd (u_rf_next m) (fun y16 h2 => ?_)
    have h3 : UR F_rfl_takeElse_139 A_rfl_takeElse_139 m y16.2 := (UR_s h2 UR_0 rfl rfl)
    exact RP_w (u_rfl_takeElse_150 v1 v2 v3 v4 u0 y16.2) (sl_w (fun z hz => (UR_s hz h3 rfl rfl)) (fun z hz => (UR_s hz h3 rfl rfl)))
def F_rfl_takeElse_138 : List Nat := [7, 8, 9, 10, 11, 12]
def A_rfl_takeElse_138 : List Nat := []
theorem u_rfl_takeElse_138 (v1 : Int) (v2 : Int) (v3 : Int) (v4 : Int) (m : mR) : RP (rfl_takeElse_138 v1 v2 v3 v4 m) (sel (fun z : (Int × Int × mR) => UR F_rfl_takeElse_138 A_rfl_takeElse_138 m z.2.2) (fun z : Int × mR => UR F_rfl_takeElse_138 A_rfl_takeElse_138 m z.2)) := by
  unfold rfl_takeElse_138
  exact RP_w (u_rfl_takeElse_139 v1 v2 v3 v4 0 m) (sl_w (fun z hz => (UR_s hz UR_0 rfl rfl)) (fun z hz => (UR_s hz UR_0 rfl rfl)))
def F_rfl_takeElse_115 : List Nat := [7, 8, 9, 10, 11, 12]
def A_rfl_takeElse_115 : List Nat := []
theorem u_rfl_takeElse_115 (v1 : Int) (v2 : Int) (v3 : Int) (v4 : Int) (m : mR) : RP (rfl_takeElse_115 v1 v2 v3 v4 m) (sel (fun z : (Int × Int × mR) => UR F_rfl_takeElse_115 A_rfl_takeElse_115 m z.2.2) (fun z : Int × mR => UR F_rfl_takeElse_115 A_rfl_takeElse_115 m z.2)) := by
  unfold rfl_takeElse_115
  refine RP_ite (fun h1 => ?_) (fun h1 => ?_)
  · skip
    refine RP_ite (fun h2 => ?_) (fun h2 => ?_)
    · skip
      exact RP_w (u_rfl_takeElse_139 v1 v2 v3 (cut (v4 + 1)) 1 m) (sl_w (fun z hz => (UR_s hz UR_0 rfl rfl)) (fun z hz => (UR_s hz UR_0 rfl rfl)))
    · skip
      exact RP_w (u_rfl_takeElse_138 v1 v2 v3 (cut (v4 + 1)) m) (sl_w (fun z hz => (UR_s hz UR_0 rfl rfl)) (fun z hz => (UR_s hz UR_0 rfl rfl)))
  · skip
    exact RP_w (u_rfl_takeElse_138 v1 v2 v3 (cut (v4 + 1)) m) (sl_w (fun z hz => (UR_s hz UR_0 rfl rfl)) (fun z hz => (UR_s hz UR_0 rfl rfl)))
def F_rfl_takeElse_94 : List Nat := [7, 8, 9, 10, 11, 12]
def A_rfl_takeElse_94 : List Nat := [115]
theorem u_rfl_takeElse_94 (v1 : Int) (v2 : Int) (v3 : Int) (v4 : Int) (u0 : Int) (m : mR) : RP (rfl_takeElse_94 v1 v2 v3 v4 u0 m) (sel (fun z : (Int × Int × mR) => UR F_rfl_takeElse_94 A_rfl_takeElse_94 m z.2.2) (fun z : Int × mR => UR F_rfl_takeElse_94 A_rfl_takeElse_94 m z.2)) := by
  unfold rfl_takeElse_94
  refine RP_ite (fun h1 => ?_) (fun h1 => ?_)
  · skip
    exact RP_w (u_rfl_takeElse_115 v1 v2 v3 v4 m) (sl_w (fun z hz => (UR_s hz UR_0 rfl rfl)) (fun z hz => (UR_s hz UR_0 rfl rfl)))
  · skip
    exact RP_w (u_rfl_takeElse_115 v1 v2 v3 v4 (mO m [] [(115, upI (m.2 115) (cut ((cut (4 * v1)) + v4)) u0)])) (sl_w (fun z hz => (UR_s hz (UR_m UR_0 rfl rfl (fun h => h)) rfl rfl)) (fun z hz => (UR_s hz (UR_m UR_0 rfl rfl (fun h => h)) rfl rfl)))
def F_rfl_takeElse_91 : List Nat := [7, 8, 9, 10, 11, 12]
def A_rfl_takeElse_91 : List Nat := [115]
theorem u_rfl_takeElse_91 (v1 : Int) (v2 : Int) (v3 : Int) (v4 : Int) (u1 : Int) (m : mR) : RP (rfl_takeElse_91 v1 v2 v3 v4 u1 m) (sel (fun z : (Int × Int × mR) => UR F_rfl_takeElse_91 A_rfl_takeElse_91 m z.2.2) (fun z : Int × mR => UR F_rfl_takeElse_91 A_rfl_takeElse_91 m z.2)) := by
  unfold rfl_takeElse_91
  refine RP_bnd (u_rf_caseNumber u1 m) (fun y22 h1 => ?_)
  have h2 : UR F_rfl_takeElse_91 A_rfl_takeElse_91 m y22.2 := (UR_s h1 UR_0 rfl rfl)
  exact RP_w (u_rfl_takeElse_94 v1 v2 v3 v4 y22.1 y22.2) (sl_w (fun z hz => (UR_s hz h2 rfl rfl)) (fun z hz => (UR_s hz h2 rfl rfl)))
def F_rfb_takeElse_51 : List Nat := [7, 8, 9, 10, 11, 12]
def A_rfb_takeElse_51 : List Nat := [115]
theorem u_rfb_takeElse_51 (v1 : Int) (v2 : Int) (v3 : Int) (s : Int × Int × mR) : RP (rfb_takeElse_51 v1 v2 v3 s) (sel (fun z : (Int × Int × mR) => UR F_rfb_takeElse_51 A_rfb_takeElse_51 s.2.2 z.2.2) (fun z : Int × mR => UR F_rfb_takeElse_51 A_rfb_takeElse_51 s.2.2 z.2)) := by
  unfold rfb_takeElse_51
  refine RP_ite (fun h1 => ?_) (fun h1 => ?_)
  · skip
    exact RP_some UR_0
  · skip
    refine RP_ite (fun h2 => ?_) (fun h2 => ?_)
    · skip
      refine RP_ite (fun h3 => ?_) (fun h3 => ?_)
      · skip
        exact RP_w (u_rfl_takeElse_91 v1 v2 v3 s.1 64 s.2.2) (sl_w (fun z hz => (UR_s hz UR_0 rfl rfl)) (fun z hz => (UR_s hz UR_0 rfl rfl)))
      · skip
        exact RP_w (u_rfl_takeElse_91 v1 v2 v3 s.1 ((s.2.2.2 49) (cut ((cut (4 * v3)) + s.1))) s.2.2) (sl_w (fun z hz => (UR_s hz UR_0 rfl rfl)) (fun z hz => (UR_s hz UR_0 rfl rfl)))
    · skip
      exact RP_some UR_0
theorem uw_rfb_takeElse_51 (v1 : Int) (v2 : Int) (v3 : Int) (s : Int × Int × mR) : RP (whl (rfb_takeElse_51 v1 v2 v3) s) (fun z : Int × mR => UR F_rfb_takeElse_51 A_rfb_takeElse_51 s.2.2 z.2) := RP_whl (I := fun q : Int × Int × mR => UR F_rfb_takeElse_51 A_rfb_takeElse_51 s.2.2 q.2.2) (fun q hq => RP_w (u_rfb_takeElse_51 v1 v2 v3 q) (sl_w (fun z hz => (UR_s hz hq rfl rfl)) (fun z hz => (UR_s hz hq rfl rfl)))) UR_0
def F_rfl_takeElse_49 : List Nat := [7, 8, 9, 10, 11, 12]
def A_rfl_takeElse_49 : List Nat := [57, 115]
theorem u_rfl_takeElse_49 (v1 : Int) (v2 : Int) (v3 : Int) (v4 : Int) (u0 : Int) (m : mR) : RP (rfl_takeElse_49 v1 v2 v3 v4 u0 m) (fun z : Int × mR => UR F_rfl_takeElse_49 A_rfl_takeElse_49 m z.2) := by
  unfold rfl_takeElse_49
  refine RP_bnd (uw_rfb_takeElse_51 v1 v2 v3 (v4, u0, m)) (fun e30 h1 => ?_)
  have h2 : UR F_rfl_takeElse_49 A_rfl_takeElse_49 m e30.2 := (UR_s h1 UR_0 rfl rfl)
  exact RP_w (u_rfl_takeElse_153 v1 v2 v3 e30.1 e30.2) (fun z hz => (UR_s hz h2 rfl rfl))
def F_rfl_takeElse_48 : List Nat := [7, 8, 9, 10, 11, 12]
def A_rfl_takeElse_48 : List Nat := [57, 115]
theorem u_rfl_takeElse_48 (v1 : Int) (v2 : Int) (v3 : Int) (v4 : Int) (m : mR) : RP (rfl_takeElse_48 v1 v2 v3 v4 m) (fun z : Int × mR => UR F_rfl_takeElse_48 A_rfl_takeElse_48 m z.2) := by
  unfold rfl_takeElse_48
  exact RP_w (u_rfl_takeElse_49 v1 v2 v3 v4 0 m) (fun z hz => (UR_s hz UR_0 rfl rfl))
def F_rfl_takeElse_25 : List Nat := [7, 8, 9, 10, 11, 12]
def A_rfl_takeElse_25 : List Nat := [57, 115]
theorem u_rfl_takeElse_25 (v1 : Int) (v2 : Int) (v3 : Int) (m : mR) : RP (rfl_takeElse_25 v1 v2 v3 m) (fun z : Int × mR => UR F_rfl_takeElse_25 A_rfl_takeElse_25 m z.2) := by
  unfold rfl_takeElse_25
  refine RP_ite (fun h1 => ?_) (fun h1 => ?_)
  · skip
    refine RP_ite (fun h2 => ?_) (fun h2 => ?_)
    · skip
      exact RP_w (u_rfl_takeElse_48 v1 v2 v3 0 m) (fun z hz => (UR_s hz UR_0 rfl rfl))
    · skip
      exact RP_w (u_rfl_takeElse_49 v1 v2 v3 0 1 m) (fun z hz => (UR_s hz UR_0 rfl rfl))
  · skip
    exact RP_w (u_rfl_takeElse_48 v1 v2 v3 0 m) (fun z hz => (UR_s hz UR_0 rfl rfl))
def F_rfl_takeElse_18 : List Nat := [7, 8, 9, 10, 11, 12]
def A_rfl_takeElse_18 : List Nat := [57, 115]
theorem u_rfl_takeElse_18 (v1 : Int) (v2 : Int) (u0 : Int) (m : mR) : RP (rfl_takeElse_18 v1 v2 u0 m) (fun z : Int × mR => UR F_rfl_takeElse_18 A_rfl_takeElse_18 m z.2) := by
  unfold rfl_takeElse_18
  refine RP_bnd (u_rf_need 40 m) (fun y36 h1 => ?_)
  have h2 : UR F_rfl_takeElse_18 A_rfl_takeElse_18 m y36.2 := (UR_s h1 UR_0 rfl rfl)
  exact RP_w (u_rfl_takeElse_25 v1 v2 u0 y36.2) (fun z hz => (UR_s hz h2 rfl rfl))
def F_rfl_takeElse_7 : List Nat := [7, 8, 9, 10, 11, 12]
def A_rfl_takeElse_7 : List Nat := [57, 115]
theorem u_rfl_takeElse_7 (v1 : Int) (m : mR) : RP (rfl_takeElse_7 v1 m) (fun z : Int × mR => UR F_rfl_takeElse_7 A_rfl_takeElse_7 m z.2) := by
  unfold rfl_takeElse_7
  refine RP_bnd (u_rf_oldName 6 m) (fun y39 h1 => ?_)
  have h2 : UR F_rfl_takeElse_7 A_rfl_takeElse_7 m y39.2 := (UR_s h1 UR_0 rfl rfl)
  exact RP_w (u_rfl_takeElse_18 v1 (m.1 8) y39.1 y39.2) (fun z hz => (UR_s hz h2 rfl rfl))
theorem u_rf_takeElse (v1 : Int) (m : mR) : RP (rf_takeElse v1 m) (fun z : Int × mR => UR rF_takeElse rA_takeElse m z.2) := by
  unfold rf_takeElse
  refine RP_bnd (u_rf_need 308 m) (fun y42 h1 => ?_)
  have h2 : UR rF_takeElse rA_takeElse m y42.2 := (UR_s h1 UR_0 rfl rfl)
  exact RP_w (u_rfl_takeElse_7 v1 y42.2) (fun z hz => (UR_s hz h2 rfl rfl))
def rF_takeRoom : List Nat := [7, 8, 9, 10, 11, 12]
def rA_takeRoom : List Nat := [54, 55, 56]
def F_rfl_takeRoom_168 : List Nat := [7, 8, 9, 10, 11, 12]
def A_rfl_takeRoom_168 : List Nat := []
theorem u_rfl_takeRoom_168 (m : mR) : RP (rfl_takeRoom_168 m) (fun z : Int × mR => UR F_rfl_takeRoom_168 A_rfl_takeRoom_168 m z.2) := by
  unfold rfl_takeRoom_168
  refine RP_bnd (u_rf_need 59 m) (fun y1 h1 => ?_)
  have h2 : UR F_rfl_takeRoom_168 A_rfl_takeRoom_168 m y1.2 := (UR_s h1 UR_0 rfl rfl)
  exact RP_some h2
def F_rfl_takeRoom_167 : List Nat := [7, 8, 9, 10, 11, 12]
def A_rfl_takeRoom_167 : List Nat := [56]
theorem u_rfl_takeRoom_167 (u1 : Int) (u2 : Int) (m : mR) : RP (rfl_takeRoom_167 u1 u2 m) (fun z : Int × mR => UR F_rfl_takeRoom_167 A_rfl_takeRoom_167 m z.2) := by
  unfold rfl_takeRoom_167
  exact RP_w (u_rfl_takeRoom_168 (mO m [] [(56, upI (m.2 56) u1 u2)])) (fun z hz => (UR_s hz (UR_m UR_0 rfl rfl (fun h => h)) rfl rfl))
def F_rfl_takeRoom_155 : List Nat := [7, 8, 9, 10, 11, 12]
def A_rfl_takeRoom_155 : List Nat := [56]
theorem u_rfl_takeRoom_155 (v1 : Int) (m : mR) : RP (rfl_takeRoom_155 v1 m) (fun z : Int × mR => UR F_rfl_takeRoom_155 A_rfl_takeRoom_155 m z.2) := by
  unfold rfl_takeRoom_155
  refine RP_bnd (u_rf_number 0 8 m) (fun y4 h1 => ?_)
  have h2 : UR F_rfl_takeRoom_155 A_rfl_takeRoom_155 m y4.2 := (UR_s h1 UR_0 rfl rfl)
  exact RP_w (u_rfl_takeRoom_167 v1 y4.1 y4.2) (fun z hz => (UR_s hz h2 rfl rfl))
def F_rfl_takeRoom_147 : List Nat := [7, 8, 9, 10, 11, 12]
def A_rfl_takeRoom_147 : List Nat := [55, 56]
theorem u_rfl_takeRoom_147 (v1 : Int) (u1 : Int) (u2 : Int) (m : mR) : RP (rfl_takeRoom_147 v1 u1 u2 m) (fun z : Int × mR => UR F_rfl_takeRoom_147 A_rfl_takeRoom_147 m z.2) := by
  unfold rfl_takeRoom_147
  refine RP_bnd (u_rf_need 318 (mO m [] [(55, upI (m.2 55) u1 u2)])) (fun y7 h1 => ?_)
  have h2 : UR F_rfl_takeRoom_147 A_rfl_takeRoom_147 m y7.2 := (UR_s h1 (UR_m UR_0 rfl rfl (fun h => h)) rfl rfl)
  exact RP_w (u_rfl_takeRoom_155 v1 y7.2) (fun z hz => (UR_s hz h2 rfl rfl))
def F_rfl_takeRoom_136 : List Nat := [7, 8, 9, 10, 11, 12]
def A_rfl_takeRoom_136 : List Nat := [55, 56]
theorem u_rfl_takeRoom_136 (v1 : Int) (m : mR) : RP (rfl_takeRoom_136 v1 m) (fun z : Int × mR => UR F_rfl_takeRoom_136 A_rfl_takeRoom_136 m z.2) := by
  unfold rfl_takeRoom_136
  refine RP_bnd (u_rf_number 1 4 m) (fun y10 h1 => ?_)
  have h2 : UR F_rfl_takeRoom_136 A_rfl_takeRoom_136 m y10.2 := (UR_s h1 UR_0 rfl rfl)
  exact RP_w (u_rfl_takeRoom_147 v1 v1 y10.1 y10.2) (fun z hz => (UR_s hz h2 rfl rfl))
def F_rfl_takeRoom_105 : List Nat := [7, 8, 9, 10, 11, 12]
def A_rfl_takeRoom_105 : List Nat := [54, 55, 56]
theorem u_rfl_takeRoom_105 (v1 : Int) (u1 : Int) (u2 : Int) (m : mR) : RP (rfl_takeRoom_105 v1 u1 u2 m) (fun z : Int × mR => UR F_rfl_takeRoom_105 A_rfl_takeRoom_105 m z.2) := by
  unfold rfl_takeRoom_105
  refine RP_ite (fun h1 => ?_) (fun h1 => ?_)
  · skip
    exact RP_w (u_rfl_takeRoom_168 (mO m [] [(54, upI (m.2 54) u1 u2), (55, upI (m.2 55) v1 0), (56, upI (m.2 56) v1 0)])) (fun z hz => (UR_s hz (UR_m UR_0 rfl rfl (fun h => h)) rfl rfl))
  · skip
    refine RP_bnd (u_rf_need 317 (mO m [] [(54, upI (m.2 54) u1 u2), (55, upI (m.2 55) v1 0), (56, upI (m.2 56) v1 0)])) (fun y14 h2 => ?_)
    have h3 : UR F_rfl_takeRoom_105 A_rfl_takeRoom_105 m y14.2 := (UR_s h2 (UR_m UR_0 rfl rfl (fun h => h)) rfl rfl)
    exact RP_w (u_rfl_takeRoom_136 v1 y14.2) (fun z hz => (UR_s hz h3 rfl rfl))
def F_rfl_takeRoom_93 : List Nat := [7, 8, 9, 10, 11, 12]
def A_rfl_takeRoom_93 : List Nat := [54, 55, 56]
theorem u_rfl_takeRoom_93 (v1 : Int) (m : mR) : RP (rfl_takeRoom_93 v1 m) (fun z : Int × mR => UR F_rfl_takeRoom_93 A_rfl_takeRoom_93 m z.2) := by
  unfold rfl_takeRoom_93
  refine RP_bnd (u_rf_number 1 32 m) (fun y17 h1 => ?_)
  have h2 : UR F_rfl_takeRoom_93 A_rfl_takeRoom_93 m y17.2 := (UR_s h1 UR_0 rfl rfl)
  exact RP_w (u_rfl_takeRoom_105 v1 v1 y17.1 y17.2) (fun z hz => (UR_s hz h2 rfl rfl))
def F_rfl_takeRoom_7 : List Nat := [7, 8, 9, 10, 11, 12]
def A_rfl_takeRoom_7 : List Nat := [54, 55, 56]
theorem u_rfl_takeRoom_7 (v1 : Int) (m : mR) : RP (rfl_takeRoom_7 v1 m) (fun z : Int × mR => UR F_rfl_takeRoom_7 A_rfl_takeRoom_7 m z.2) := by
  unfold rfl_takeRoom_7
  refine RP_ite (fun h1 => ?_) (fun h1 => ?_)
  · skip
    refine RP_ite (fun h2 => ?_) (fun h2 => ?_)
    · skip
      exact RP_w (u_rfl_takeRoom_93 v1 m) (fun z hz => (UR_s hz UR_0 rfl rfl))
    · skip
      refine RP_ite (fun h3 => ?_) (fun h3 => ?_)
      · skip
        refine RP_ite (fun h4 => ?_) (fun h4 => ?_)
        · skip
          exact RP_w (u_rfl_takeRoom_93 v1 m) (fun z hz => (UR_s hz UR_0 rfl rfl))
        · skip
          refine RP_ite (fun h5 => ?_) (fun h5 => ?_)
          · skip
            exact RP_w (u_rfl_takeRoom_93 v1 m) (fun z hz => (UR_s hz UR_0 rfl rfl))
          · skip
            refine RP_ite (fun h6 => ?_) (fun h6 => ?_)
            · skip
              exact RP_w (u_rfl_takeRoom_93 v1 m) (fun z hz => (UR_s hz UR_0 rfl rfl))
            · skip
              refine RP_ite (fun h7 => ?_) (fun h7 => ?_)
              · skip
                exact RP_w (u_rfl_takeRoom_93 v1 m) (fun z hz => (UR_s hz UR_0 rfl rfl))
              · skip
                refine RP_ite (fun h8 => ?_) (fun h8 => ?_)
                · skip
                  exact RP_w (u_rfl_takeRoom_93 v1 m) (fun z hz => (UR_s hz UR_0 rfl rfl))
                · skip
                  refine RP_bnd (u_rf_wrong 5 (m.1 8) m) (fun y28 h9 => ?_)
                  have h10 : UR F_rfl_takeRoom_7 A_rfl_takeRoom_7 m y28.2 := (UR_s h9 UR_0 rfl rfl)
                  exact RP_w (u_rfl_takeRoom_93 v1 y28.2) (fun z hz => (UR_s hz h10 rfl rfl))
      · skip
        exact RP_w (u_rfl_takeRoom_93 v1 m) (fun z hz => (UR_s hz UR_0 rfl rfl))
  · skip
    exact RP_w (u_rfl_takeRoom_93 v1 m) (fun z hz => (UR_s hz UR_0 rfl rfl))
theorem u_rf_takeRoom (v1 : Int) (m : mR) : RP (rf_takeRoom v1 m) (fun z : Int × mR => UR rF_takeRoom rA_takeRoom m z.2) := by
  unfold rf_takeRoom
  refine RP_bnd (u_rf_need 316 m) (fun y31 h1 => ?_)
  have h2 : UR rF_takeRoom rA_takeRoom m y31.2 := (UR_s h1 UR_0 rfl rfl)
  exact RP_w (u_rfl_takeRoom_7 v1 y31.2) (fun z hz => (UR_s hz h2 rfl rfl))
def rF_takeTable : List Nat := [7, 8, 9, 10, 11, 12, 13, 26, 28, 69, 70, 71, 72, 73, 74, 75]
def rA_takeTable : List Nat := [14, 15, 16, 17, 51, 52, 53, 54, 55, 56, 57, 58, 59, 65, 66, 67, 68, 76, 77, 78, 79, 80, 81, 82, 83, 84, 85, 86, 87, 88, 89, 90, 91, 92, 110, 111, 112, 113, 114, 115, 116]
def F_rfl_takeTable_418 : List Nat := [7, 8, 9, 10, 11, 12]
def A_rfl_takeTable_418 : List Nat := []
theorem u_rfl_takeTable_418 (m : mR) : RP (rfl_takeTable_418 m) (fun z : Int × mR => UR F_rfl_takeTable_418 A_rfl_takeTable_418 m z.2) := by
  unfold rfl_takeTable_418
  refine RP_bnd (u_rf_need 125 m) (fun y5 h1 => ?_)
  have h2 : UR F_rfl_takeTable_418 A_rfl_takeTable_418 m y5.2 := (UR_s h1 UR_0 rfl rfl)
  exact RP_some h2
def F_rfl_takeTable_413 : List Nat := [7, 8, 9, 10, 11, 12]
def A_rfl_takeTable_413 : List Nat := [54, 55, 56]
theorem u_rfl_takeTable_413 (v1 : Int) (m : mR) : RP (rfl_takeTable_413 v1 m) (fun z : Int × mR => UR F_rfl_takeTable_413 A_rfl_takeTable_413 m z.2) := by
  unfold rfl_takeTable_413
  refine RP_bnd (u_rf_takeRoom v1 m) (fun y8 h1 => ?_)
  have h2 : UR F_rfl_takeTable_413 A_rfl_takeTable_413 m y8.2 := (UR_s h1 UR_0 rfl rfl)
  exact RP_w (u_rfl_takeTable_418 y8.2) (fun z hz => (UR_s hz h2 rfl rfl))
def F_rfl_takeTable_408 : List Nat := [7, 8, 9, 10, 11, 12]
def A_rfl_takeTable_408 : List Nat := [54, 55, 56, 57, 115]
theorem u_rfl_takeTable_408 (v1 : Int) (m : mR) : RP (rfl_takeTable_408 v1 m) (fun z : Int × mR => UR F_rfl_takeTable_408 A_rfl_takeTable_408 m z.2) := by
  unfold rfl_takeTable_408
  refine RP_bnd (u_rf_takeElse v1 m) (fun y11 h1 => ?_)
  have h2 : UR F_rfl_takeTable_408 A_rfl_takeTable_408 m y11.2 := (UR_s h1 UR_0 rfl rfl)
  exact RP_w (u_rfl_takeTable_413 v1 y11.2) (fun z hz => (UR_s hz h2 rfl rfl))
def F_rfl_takeTable_402 : List Nat := [7, 8, 9, 10, 11, 12]
def A_rfl_takeTable_402 : List Nat := [53, 54, 55, 56, 57, 58, 114, 115, 116]
theorem u_rfl_takeTable_402 (v1 : Int) (u1 : Int) (u2 : Int) (m : mR) : RP (rfl_takeTable_402 v1 u1 u2 m) (fun z : Int × mR => UR F_rfl_takeTable_402 A_rfl_takeTable_402 m z.2) := by
  unfold rfl_takeTable_402
  refine RP_bnd (u_rf_takeList v1 (mO m [] [(58, upI (m.2 58) u1 (nar1 u2))])) (fun y14 h1 => ?_)
  have h2 : UR F_rfl_takeTable_402 A_rfl_takeTable_402 m y14.2 := (UR_s h1 (UR_m UR_0 rfl rfl (fun h => h)) rfl rfl)
  exact RP_w (u_rfl_takeTable_408 v1 y14.2) (fun z hz => (UR_s hz h2 rfl rfl))
def F_rfl_takeTable_401 : List Nat := [7, 8, 9, 10, 11, 12]
def A_rfl_takeTable_401 : List Nat := [53, 54, 55, 56, 57, 58, 114, 115, 116]
theorem u_rfl_takeTable_401 (v1 : Int) (u1 : Int) (m : mR) : RP (rfl_takeTable_401 v1 u1 m) (fun z : Int × mR => UR F_rfl_takeTable_401 A_rfl_takeTable_401 m z.2) := by
  unfold rfl_takeTable_401
  exact RP_w (u_rfl_takeTable_402 v1 u1 0 m) (fun z hz => (UR_s hz UR_0 rfl rfl))
def F_rfl_takeTable_384 : List Nat := [7, 8, 9, 10, 11, 12]
def A_rfl_takeTable_384 : List Nat := [53, 54, 55, 56, 57, 58, 114, 115, 116]
theorem u_rfl_takeTable_384 (v1 : Int) (v2 : Int) (v3 : Int) (m : mR) : RP (rfl_takeTable_384 v1 v2 v3 m) (fun z : Int × mR => UR F_rfl_takeTable_384 A_rfl_takeTable_384 m z.2) := by
  unfold rfl_takeTable_384
  refine RP_ite (fun h1 => ?_) (fun h1 => ?_)
  · skip
    refine RP_ite (fun h2 => ?_) (fun h2 => ?_)
    · skip
      exact RP_w (u_rfl_takeTable_402 v1 v1 1 m) (fun z hz => (UR_s hz UR_0 rfl rfl))
    · skip
      exact RP_w (u_rfl_takeTable_401 v1 v1 m) (fun z hz => (UR_s hz UR_0 rfl rfl))
  · skip
    exact RP_w (u_rfl_takeTable_401 v1 v1 m) (fun z hz => (UR_s hz UR_0 rfl rfl))
def F_rfl_takeTable_360 : List Nat := []
def A_rfl_takeTable_360 : List Nat := [51, 52]
theorem u_rfl_takeTable_360 (v1 : Int) (v2 : Int) (v3 : Int) (v5 : Int) (m : mR) : RP (rfl_takeTable_360 v1 v2 v3 v5 m) (sel (fun z : (Int × Int × mR) => UR F_rfl_takeTable_360 A_rfl_takeTable_360 m z.2.2) (sel (fun z : (mR) => UR F_rfl_takeTable_360 A_rfl_takeTable_360 m z) (fun z : Int × Int × mR => UR F_rfl_takeTable_360 A_rfl_takeTable_360 m z.2.2))) := by
  unfold rfl_takeTable_360
  exact RP_some (UR_m UR_0 rfl rfl (fun h => h))
def F_rfl_takeTable_353 : List Nat := [7, 8, 9, 10, 11, 12]
def A_rfl_takeTable_353 : List Nat := [51, 52]
theorem u_rfl_takeTable_353 (v1 : Int) (v2 : Int) (v5 : Int) (u0 : Int) (m : mR) : RP (rfl_takeTable_353 v1 v2 v5 u0 m) (sel (fun z : (Int × Int × mR) => UR F_rfl_takeTable_353 A_rfl_takeTable_353 m z.2.2) (sel (fun z : (mR) => UR F_rfl_takeTable_353 A_rfl_takeTable_353 m z) (fun z : Int × Int × mR => UR F_rfl_takeTable_353 A_rfl_takeTable_353 m z.2.2))) := by
  unfold rfl_takeTable_353
  refine RP_bnd (u_rf_need 59 m) (fun y19 h1 => ?_)
  have h2 : UR F_rfl_takeTable_353 A_rfl_takeTable_353 m y19.2 := (UR_s h1 UR_0 rfl rfl)
  exact RP_w (u_rfl_takeTable_360 v1 v2 u0 v5 y19.2) (sl_w (fun z hz => (UR_s hz h2 rfl rfl)) (sl_w (fun z hz => (UR_s hz h2 rfl rfl)) (fun z hz => (UR_s hz h2 rfl rfl))))
def F_rfl_takeTable_348 : List Nat := [7, 8, 9, 10, 11, 12]
def A_rfl_takeTable_348 : List Nat := [51, 52]
theorem u_rfl_takeTable_348 (v1 : Int) (v2 : Int) (v5 : Int) (m : mR) : RP (rfl_takeTable_348 v1 v2 v5 m) (sel (fun z : (Int × Int × mR) => UR F_rfl_takeTable_348 A_rfl_takeTable_348 m z.2.2) (sel (fun z : (mR) => UR F_rfl_takeTable_348 A_rfl_takeTable_348 m z) (fun z : Int × Int × mR => UR F_rfl_takeTable_348 A_rfl_takeTable_348 m z.2.2))) := by
  unfold rfl_takeTable_348
  exact RP_w (u_rfl_takeTable_353 v1 v2 v5 1 m) (sl_w (fun z hz => (UR_s hz UR_0 rfl rfl)) (sl_w (fun z hz => (UR_s hz UR_0 rfl rfl)) (fun z hz => (UR_s hz UR_0 rfl rfl))))
def F_rfl_takeTable_335 : List Nat := [7, 8, 9, 10, 11, 12]
def A_rfl_takeTable_335 : List Nat := [51, 52]
theorem u_rfl_takeTable_335 (v1 : Int) (v3 : Int) (v5 : Int) (v7 : Int) (u0 : Int) (m : mR) : RP (rfl_takeTable_335 v1 v3 v5 v7 u0 m) (sel (fun z : (Int × Int × mR) => UR F_rfl_takeTable_335 A_rfl_takeTable_335 m z.2.2) (sel (fun z : (mR) => UR F_rfl_takeTable_335 A_rfl_takeTable_335 m z) (fun z : Int × Int × mR => UR F_rfl_takeTable_335 A_rfl_takeTable_335 m z.2.2))) := by
  unfold rfl_takeTable_335
  refine RP_ite (fun h1 => ?_) (fun h1 => ?_)
  · skip
    refine RP_ite (fun h2 => ?_) (fun h2 => ?_)
    · skip
      exact RP_w (u_rfl_takeTable_348 v1 u0 v5 m) (sl_w (fun z hz => (UR_s hz UR_0 rfl rfl)) (sl_w (fun z hz => (UR_s hz UR_0 rfl rfl)) (fun z hz => (UR_s hz UR_0 rfl rfl))))
    · skip
      exact RP_w (u_rfl_takeTable_353 v1 u0 v5 0 m) (sl_w (fun z hz => (UR_s hz UR_0 rfl rfl)) (sl_w (fun z hz => (UR_s hz UR_0 rfl rfl)) (fun z hz => (UR_s hz UR_0 rfl rfl))))
  · skip
    exact RP_w (u_rfl_takeTable_348 v1 u0 v5 m) (sl_w (fun z hz => (UR_s hz UR_0 rfl rfl)) (sl_w (fun z hz => (UR_s hz UR_0 rfl rfl)) (fun z hz => (UR_s hz UR_0 rfl rfl))))
def F_rfl_takeTable_330 : List Nat := [7, 8, 9, 10, 11, 12]
def A_rfl_takeTable_330 : List Nat := [51, 52]
theorem u_rfl_takeTable_330 (v1 : Int) (v3 : Int) (v5 : Int) (v7 : Int) (m : mR) : RP (rfl_takeTable_330 v1 v3 v5 v7 m) (sel (fun z : (Int × Int × mR) => UR F_rfl_takeTable_330 A_rfl_takeTable_330 m z.2.2) (sel (fun z : (mR) => UR F_rfl_takeTable_330 A_rfl_takeTable_330 m z) (fun z : Int × Int × mR => UR F_rfl_takeTable_330 A_rfl_takeTable_330 m z.2.2))) := by
  unfold rfl_takeTable_330
  exact RP_w (u_rfl_takeTable_335 v1 v3 v5 v7 1 m) (sl_w (fun z hz => (UR_s hz UR_0 rfl rfl)) (sl_w (fun z hz => (UR_s hz UR_0 rfl rfl)) (fun z hz => (UR_s hz UR_0 rfl rfl))))
def F_rfl_takeTable_309 : List Nat := [7, 8, 9, 10, 11, 12]
def A_rfl_takeTable_309 : List Nat := [51, 52, 113]
theorem u_rfl_takeTable_309 (v1 : Int) (v2 : Int) (v3 : Int) (v4 : Int) (v5 : Int) (v7 : Int) (m : mR) : RP (rfl_takeTable_309 v1 v2 v3 v4 v5 v7 m) (sel (fun z : (Int × Int × mR) => UR F_rfl_takeTable_309 A_rfl_takeTable_309 m z.2.2) (sel (fun z : (mR) => UR F_rfl_takeTable_309 A_rfl_takeTable_309 m z) (fun z : Int × Int × mR => UR F_rfl_takeTable_309 A_rfl_takeTable_309 m z.2.2))) := by
  unfold rfl_takeTable_309
  refine RP_ite (fun h1 => ?_) (fun h1 => ?_)
  · skip
    refine RP_ite (fun h2 => ?_) (fun h2 => ?_)
    · skip
      exact RP_w (u_rfl_takeTable_330 v1 v3 v5 v7 (mO m [] [(113, upI (m.2 113) v4 v7)])) (sl_w (fun z hz => (UR_s hz (UR_m UR_0 rfl rfl (fun h => h)) rfl rfl)) (sl_w (fun z hz => (UR_s hz (UR_m UR_0 rfl rfl (fun h => h)) rfl rfl)) (fun z hz => (UR_s hz (UR_m UR_0 rfl rfl (fun h => h)) rfl rfl))))
    · skip
      exact RP_w (u_rfl_takeTable_335 v1 v3 v5 v7 0 (mO m [] [(113, upI (m.2 113) v4 v7)])) (sl_w (fun z hz => (UR_s hz (UR_m UR_0 rfl rfl (fun h => h)) rfl rfl)) (sl_w (fun z hz => (UR_s hz (UR_m UR_0 rfl rfl (fun h => h)) rfl rfl)) (fun z hz => (UR_s hz (UR_m UR_0 rfl rfl (fun h => h)) rfl rfl))))
  · skip
    exact RP_w (u_rfl_takeTable_330 v1 v3 v5 v7 (mO m [] [(113, upI (m.2 113) v4 v7)])) (sl_w (fun z hz => (UR_s hz (UR_m UR_0 rfl rfl (fun h => h)) rfl rfl)) (sl_w (fun z hz => (UR_s hz (UR_m UR_0 rfl rfl (fun h => h)) rfl rfl)) (fun z hz => (UR_s hz (UR_m UR_0 rfl rfl (fun h => h)) rfl rfl))))
def F_rfl_takeTable_301 : List Nat := [7, 8, 9, 10, 11, 12]
def A_rfl_takeTable_301 : List Nat := [51, 52, 113]
theorem u_rfl_takeTable_301 (v1 : Int) (v2 : Int) (v3 : Int) (v4 : Int) (v5 : Int) (v6 : Int) (v7 : Int) (m : mR) : RP (rfl_takeTable_301 v1 v2 v3 v4 v5 v6 v7 m) (sel (fun z : (Int × Int × mR) => UR F_rfl_takeTable_301 A_rfl_takeTable_301 m z.2.2) (sel (fun z : (mR) => UR F_rfl_takeTable_301 A_rfl_takeTable_301 m z) (fun z : Int × Int × mR => UR F_rfl_takeTable_301 A_rfl_takeTable_301 m z.2.2))) := by
  unfold rfl_takeTable_301
  refine RP_bnd (u_rf_wrong 8 v6 m) (fun y26 h1 => ?_)
  have h2 : UR F_rfl_takeTable_301 A_rfl_takeTable_301 m y26.2 := (UR_s h1 UR_0 rfl rfl)
  exact RP_w (u_rfl_takeTable_309 v1 v2 v3 v4 v5 v7 y26.2) (sl_w (fun z hz => (UR_s hz h2 rfl rfl)) (sl_w (fun z hz => (UR_s hz h2 rfl rfl)) (fun z hz => (UR_s hz h2 rfl rfl))))
def F_rfl_takeTable_289 : List Nat := [7, 8, 9, 10, 11, 12]
def A_rfl_takeTable_289 : List Nat := [51, 52, 113]
theorem u_rfl_takeTable_289 (v1 : Int) (v2 : Int) (v3 : Int) (v4 : Int) (v5 : Int) (v6 : Int) (v7 : Int) (m : mR) : RP (rfl_takeTable_289 v1 v2 v3 v4 v5 v6 v7 m) (sel (fun z : (Int × Int × mR) => UR F_rfl_takeTable_289 A_rfl_takeTable_289 m z.2.2) (sel (fun z : (mR) => UR F_rfl_takeTable_289 A_rfl_takeTable_289 m z) (fun z : Int × Int × mR => UR F_rfl_takeTable_289 A_rfl_takeTable_289 m z.2.2))) := by
  unfold rfl_takeTable_289
  refine RP_ite (fun h1 => ?_) (fun h1 => ?_)
  · skip
    refine RP_ite (fun h2 => ?_) (fun h2 => ?_)
    · skip
      exact RP_w (u_rfl_takeTable_309 v1 v2 v3 v4 v5 v7 m) (sl_w (fun z hz => (UR_s hz UR_0 rfl rfl)) (sl_w (fun z hz => (UR_s hz UR_0 rfl rfl)) (fun z hz => (UR_s hz UR_0 rfl rfl))))
    · skip
      exact RP_w (u_rfl_takeTable_301 v1 v2 v3 v4 v5 v6 v7 m) (sl_w (fun z hz => (UR_s hz UR_0 rfl rfl)) (sl_w (fun z hz => (UR_s hz UR_0 rfl rfl)) (fun z hz => (UR_s hz UR_0 rfl rfl))))
  · skip
    exact RP_w (u_rfl_takeTable_309 v1 v2 v3 v4 v5 v7 m) (sl_w (fun z hz => (UR_s hz UR_0 rfl rfl)) (sl_w (fun z hz => (UR_s hz UR_0 rfl rfl)) (fun z hz => (UR_s hz UR_0 rfl rfl))))
def F_rfl_takeTable_266 : List Nat := [7, 8, 9, 10, 11, 12]
def A_rfl_takeTable_266 : List Nat := [51, 52, 113]
theorem u_rfl_takeTable_266 (v1 : Int) (v2 : Int) (v3 : Int) (v4 : Int) (v5 : Int) (v6 : Int) (v7 : Int) (m : mR) : RP (rfl_takeTable_266 v1 v2 v3 v4 v5 v6 v7 m) (sel (fun z : (Int × Int × mR) => UR F_rfl_takeTable_266 A_rfl_takeTable_266 m z.2.2) (sel (fun z : (mR) => UR F_rfl_takeTable_266 A_rfl_takeTable_266 m z) (fun z : Int × Int × mR => UR F_rfl_takeTable_266 A_rfl_takeTable_266 m z.2.2))) := by
  unfold rfl_takeTable_266
  refine RP_ite (fun h1 => ?_) (fun h1 => ?_)
  · skip
    refine RP_ite (fun h2 => ?_) (fun h2 => ?_)
    · skip
      refine RP_ite (fun h3 => ?_) (fun h3 => ?_)
      · skip
        refine RP_ite (fun h4 => ?_) (fun h4 => ?_)
        · skip
          exact RP_w (u_rfl_takeTable_289 v1 v2 v3 v4 v5 v6 v7 m) (sl_w (fun z hz => (UR_s hz UR_0 rfl rfl)) (sl_w (fun z hz => (UR_s hz UR_0 rfl rfl)) (fun z hz => (UR_s hz UR_0 rfl rfl))))
        · skip
          exact RP_w (u_rfl_takeTable_301 v1 v2 v3 v4 v5 v6 v7 m) (sl_w (fun z hz => (UR_s hz UR_0 rfl rfl)) (sl_w (fun z hz => (UR_s hz UR_0 rfl rfl)) (fun z hz => (UR_s hz UR_0 rfl rfl))))
      · skip
        exact RP_w (u_rfl_takeTable_301 v1 v2 v3 v4 v5 v6 v7 m) (sl_w (fun z hz => (UR_s hz UR_0 rfl rfl)) (sl_w (fun z hz => (UR_s hz UR_0 rfl rfl)) (fun z hz => (UR_s hz UR_0 rfl rfl))))
    · skip
      exact RP_w (u_rfl_takeTable_289 v1 v2 v3 v4 v5 v6 v7 m) (sl_w (fun z hz => (UR_s hz UR_0 rfl rfl)) (sl_w (fun z hz => (UR_s hz UR_0 rfl rfl)) (fun z hz => (UR_s hz UR_0 rfl rfl))))
  · skip
    exact RP_w (u_rfl_takeTable_309 v1 v2 v3 v4 v5 v7 m) (sl_w (fun z hz => (UR_s hz UR_0 rfl rfl)) (sl_w (fun z hz => (UR_s hz UR_0 rfl rfl)) (fun z hz => (UR_s hz UR_0 rfl rfl))))
def F_rfl_takeTable_262 : List Nat := [7, 8, 9, 10, 11, 12]
def A_rfl_takeTable_262 : List Nat := [51, 52, 113]
theorem u_rfl_takeTable_262 (v1 : Int) (v2 : Int) (v3 : Int) (v4 : Int) (v5 : Int) (v6 : Int) (v7 : Int) (m : mR) : RP (rfl_takeTable_262 v1 v2 v3 v4 v5 v6 v7 m) (sel (fun z : (Int × Int × mR) => UR F_rfl_takeTable_262 A_rfl_takeTable_262 m z.2.2) (sel (fun z : (mR) => UR F_rfl_takeTable_262 A_rfl_takeTable_262 m z) (fun z : Int × Int × mR => UR F_rfl_takeTable_262 A_rfl_takeTable_262 m z.2.2))) := by
  unfold rfl_takeTable_262
  refine RP_bnd (u_rf_next m) (fun y35 h1 => ?_)
  have h2 : UR F_rfl_takeTable_262 A_rfl_takeTable_262 m y35.2 := (UR_s h1 UR_0 rfl rfl)
  exact RP_w (u_rfl_takeTable_266 v1 v2 v3 v4 v5 v6 v7 y35.2) (sl_w (fun z hz => (UR_s hz h2 rfl rfl)) (sl_w (fun z hz => (UR_s hz h2 rfl rfl)) (fun z hz => (UR_s hz h2 rfl rfl))))
def F_rfl_takeTable_215 : List Nat := [7, 8, 9, 10, 11, 12]
def A_rfl_takeTable_215 : List Nat := [51, 52, 113]
theorem u_rfl_takeTable_215 (v1 : Int) (v2 : Int) (v3 : Int) (v4 : Int) (v5 : Int) (m : mR) : RP (rfl_takeTable_215 v1 v2 v3 v4 v5 m) (sel (fun z : (Int × Int × mR) => UR F_rfl_takeTable_215 A_rfl_takeTable_215 m z.2.2) (sel (fun z : (mR) => UR F_rfl_takeTable_215 A_rfl_takeTable_215 m z) (fun z : Int × Int × mR => UR F_rfl_takeTable_215 A_rfl_takeTable_215 m z.2.2))) := by
  unfold rfl_takeTable_215
  refine RP_ite (fun h1 => ?_) (fun h1 => ?_)
  · skip
    refine RP_ite (fun h2 => ?_) (fun h2 => ?_)
    · skip
      exact RP_w (u_rfl_takeTable_262 v1 v2 v3 v4 v5 (m.1 8) (m.1 7) m) (sl_w (fun z hz => (UR_s hz UR_0 rfl rfl)) (sl_w (fun z hz => (UR_s hz UR_0 rfl rfl)) (fun z hz => (UR_s hz UR_0 rfl rfl))))
    · skip
      refine RP_ite (fun h3 => ?_) (fun h3 => ?_)
      · skip
        exact RP_w (u_rfl_takeTable_262 v1 v2 v3 v4 v5 (m.1 8) (m.1 7) m) (sl_w (fun z hz => (UR_s hz UR_0 rfl rfl)) (sl_w (fun z hz => (UR_s hz UR_0 rfl rfl)) (fun z hz => (UR_s hz UR_0 rfl rfl))))
      · skip
        refine RP_ite (fun h4 => ?_) (fun h4 => ?_)
        · skip
          exact RP_w (u_rfl_takeTable_262 v1 v2 v3 v4 v5 (m.1 8) (m.1 7) m) (sl_w (fun z hz => (UR_s hz UR_0 rfl rfl)) (sl_w (fun z hz => (UR_s hz UR_0 rfl rfl)) (fun z hz => (UR_s hz UR_0 rfl rfl))))
        · skip
          refine RP_bnd (u_rf_bad m) (fun y42 h5 => ?_)
          have h6 : UR F_rfl_takeTable_215 A_rfl_takeTable_215 m y42.2 := (UR_s h5 UR_0 rfl rfl)
          exact RP_w (u_rfl_takeTable_262 v1 v2 v3 v4 v5 (m.1 8) (m.1 7) y42.2) (sl_w (fun z hz => (UR_s hz h6 rfl rfl)) (sl_w (fun z hz => (UR_s hz h6 rfl rfl)) (fun z hz => (UR_s hz h6 rfl rfl))))
  · skip
    exact RP_w (u_rfl_takeTable_262 v1 v2 v3 v4 v5 (m.1 8) (m.1 7) m) (sl_w (fun z hz => (UR_s hz UR_0 rfl rfl)) (sl_w (fun z hz => (UR_s hz UR_0 rfl rfl)) (fun z hz => (UR_s hz UR_0 rfl rfl))))
def F_rfl_takeTable_183 : List Nat := [7, 8, 9, 10, 11, 12]
def A_rfl_takeTable_183 : List Nat := [51, 52, 111, 112, 113]
theorem u_rfl_takeTable_183 (v1 : Int) (v2 : Int) (v3 : Int) (v4 : Int) (m : mR) : RP (rfl_takeTable_183 v1 v2 v3 v4 m) (sel (fun z : (Int × Int × mR) => UR F_rfl_takeTable_183 A_rfl_takeTable_183 m z.2.2) (sel (fun z : (mR) => UR F_rfl_takeTable_183 A_rfl_takeTable_183 m z) (fun z : Int × Int × mR => UR F_rfl_takeTable_183 A_rfl_takeTable_183 m z.2.2))) := by
  unfold rfl_takeTable_183
  refine RP_bnd (u_rf_need 58 (mO m [] [(111, upI (m.2 111) v4 (m.1 28)), (112, upI (m.2 112) v4 (m.1 69))])) (fun y45 h1 => ?_)
  have h2 : UR F_rfl_takeTable_183 A_rfl_takeTable_183 m y45.2 := (UR_s h1 (UR_m UR_0 rfl rfl (fun h => h)) rfl rfl)
  exact RP_w (u_rfl_takeTable_215 v1 v2 v3 v4 (m.1 69) y45.2) (sl_w (fun z hz => (UR_s hz h2 rfl rfl)) (sl_w (fun z hz => (UR_s hz h2 rfl rfl)) (fun z hz => (UR_s hz h2 rfl rfl))))
def F_rfl_takeTable_161 : List Nat := [7, 8, 9, 10, 11, 12, 28, 69, 70, 71, 72, 73, 74, 75]
def A_rfl_takeTable_161 : List Nat := [51, 52, 65, 66, 67, 68, 76, 77, 78, 79, 80, 81, 82, 83, 84, 85, 86, 87, 88, 89, 90, 91, 92, 110, 111, 112, 113]
theorem u_rfl_takeTable_161 (v1 : Int) (v2 : Int) (v3 : Int) (v4 : Int) (m : mR) : RP (rfl_takeTable_161 v1 v2 v3 v4 m) (sel (fun z : (Int × Int × mR) => UR F_rfl_takeTable_161 A_rfl_takeTable_161 m z.2.2) (sel (fun z : (mR) => UR F_rfl_takeTable_161 A_rfl_takeTable_161 m z) (fun z : Int × Int × mR => UR F_rfl_takeTable_161 A_rfl_takeTable_161 m z.2.2))) := by
  unfold rfl_takeTable_161
  refine RP_ite (fun h1 => ?_) (fun h1 => ?_)
  · skip
    refine RP_bnd (u_rf_readExpr (mO m [] [(110, upI (m.2 110) v4 (m.1 28))])) (fun y49 h2 => ?_)
    have h3 : UR F_rfl_takeTable_161 A_rfl_takeTable_161 m y49.2 := (UR_s h2 (UR_m UR_0 rfl rfl (fun h => h)) rfl rfl)
    exact RP_w (u_rfl_takeTable_183 v1 v2 v3 v4 y49.2) (sl_w (fun z hz => (UR_s hz h3 rfl rfl)) (sl_w (fun z hz => (UR_s hz h3 rfl rfl)) (fun z hz => (UR_s hz h3 rfl rfl))))
  · skip
    exact RP_w (u_rfl_takeTable_183 v1 v2 v3 v4 (mO m [] [(110, upI (m.2 110) v4 (m.1 28))])) (sl_w (fun z hz => (UR_s hz (UR_m UR_0 rfl rfl (fun h => h)) rfl rfl)) (sl_w (fun z hz => (UR_s hz (UR_m UR_0 rfl rfl (fun h => h)) rfl rfl)) (fun z hz => (UR_s hz (UR_m UR_0 rfl rfl (fun h => h)) rfl rfl))))
def F_rfl_takeTable_137 : List Nat := [7, 8, 9, 10, 11, 12, 28, 69, 70, 71, 72, 73, 74, 75]
def A_rfl_takeTable_137 : List Nat := [51, 52, 65, 66, 67, 68, 76, 77, 78, 79, 80, 81, 82, 83, 84, 85, 86, 87, 88, 89, 90, 91, 92, 110, 111, 112, 113]
theorem u_rfl_takeTable_137 (v1 : Int) (v2 : Int) (v3 : Int) (m : mR) : RP (rfl_takeTable_137 v1 v2 v3 m) (sel (fun z : (Int × Int × mR) => UR F_rfl_takeTable_137 A_rfl_takeTable_137 m z.2.2) (sel (fun z : (mR) => UR F_rfl_takeTable_137 A_rfl_takeTable_137 m z) (fun z : Int × Int × mR => UR F_rfl_takeTable_137 A_rfl_takeTable_137 m z.2.2))) := by
  unfold rfl_takeTable_137
  refine RP_ite (fun h1 => ?_) (fun h1 => ?_)
  · skip
    refine RP_bnd (u_rf_next m) (fun y53 h2 => ?_)
    have h3 : UR F_rfl_takeTable_137 A_rfl_takeTable_137 m y53.2 := (UR_s h2 UR_0 rfl rfl)
    exact RP_w (u_rfl_takeTable_161 v1 v2 v3 (cut ((cut (4 * v1)) + ((m.2 51) v1))) y53.2) (sl_w (fun z hz => (UR_s hz h3 rfl rfl)) (sl_w (fun z hz => (UR_s hz h3 rfl rfl)) (fun z hz => (UR_s hz h3 rfl rfl))))
  · skip
    exact RP_some UR_0
def F_rfb_takeTable_101 : List Nat := [7, 8, 9, 10, 11, 12, 28, 69, 70, 71, 72, 73, 74, 75]
def A_rfb_takeTable_101 : List Nat := [51, 52, 65, 66, 67, 68, 76, 77, 78, 79, 80, 81, 82, 83, 84, 85, 86, 87, 88, 89, 90, 91, 92, 110, 111, 112, 113]
theorem u_rfb_takeTable_101 (v1 : Int) (s : Int × Int × mR) : RP (rfb_takeTable_101 v1 s) (sel (fun z : (Int × Int × mR) => UR F_rfb_takeTable_101 A_rfb_takeTable_101 s.2.2 z.2.2) (sel (fun z : (mR) => UR F_rfb_takeTable_101 A_rfb_takeTable_101 s.2.2 z) (fun z : Int × Int × mR => UR F_rfb_takeTable_101 A_rfb_takeTable_101 s.2.2 z.2.2))) := by
  unfold rfb_takeTable_101
  refine RP_ite (fun h1 => ?_) (fun h1 => ?_)
  · skip
    refine RP_ite (fun h2 => ?_) (fun h2 => ?_)
    · skip
      refine RP_ite (fun h3 => ?_) (fun h3 => ?_)
      · skip
        refine RP_bnd (u_rf_wrong 4 (s.2.2.1 8) s.2.2) (fun y63 h4 => ?_)
        have h5 : UR F_rfb_takeTable_101 A_rfb_takeTable_101 s.2.2 y63.2 := (UR_s h4 UR_0 rfl rfl)
        exact RP_w (u_rfl_takeTable_137 v1 s.1 s.2.1 y63.2) (sl_w (fun z hz => (UR_s hz h5 rfl rfl)) (sl_w (fun z hz => (UR_s hz h5 rfl rfl)) (fun z hz => (UR_s hz h5 rfl rfl))))
      · skip
        exact RP_w (u_rfl_takeTable_137 v1 s.1 s.2.1 s.2.2) (sl_w (fun z hz => (UR_s hz UR_0 rfl rfl)) (sl_w (fun z hz => (UR_s hz UR_0 rfl rfl)) (fun z hz => (UR_s hz UR_0 rfl rfl))))
    · skip
      exact RP_some UR_0
  · skip
    exact RP_some UR_0
theorem uw_rfb_takeTable_101 (v1 : Int) (s : Int × Int × mR) : RP (whl (rfb_takeTable_101 v1) s) (sel (fun z : ((mR)) => UR F_rfb_takeTable_101 A_rfb_takeTable_101 s.2.2 z) (fun z : Int × Int × mR => UR F_rfb_takeTable_101 A_rfb_takeTable_101 s.2.2 z.2.2)) := RP_whl (I := fun q : Int × Int × mR => UR F_rfb_takeTable_101 A_rfb_takeTable_101 s.2.2 q.2.2) (fun q hq => RP_w (u_rfb_takeTable_101 v1 q) (sl_w (fun z hz => (UR_s hz hq rfl rfl)) (sl_w (fun z hz => (UR_s hz hq rfl rfl)) (fun z hz => (UR_s hz hq rfl rfl))))) UR_0
def F_rfl_takeTable_76 : List Nat := [7, 8, 9, 10, 11, 12, 28, 69, 70, 71, 72, 73, 74, 75]
def A_rfl_takeTable_76 : List Nat := [51, 52, 53, 54, 55, 56, 57, 58, 65, 66, 67, 68, 76, 77, 78, 79, 80, 81, 82, 83, 84, 85, 86, 87, 88, 89, 90, 91, 92, 110, 111, 112, 113, 114, 115, 116]
theorem u_rfl_takeTable_76 (v1 : Int) (m : mR) : RP (rfl_takeTable_76 v1 m) (fun z : Int × mR => UR F_rfl_takeTable_76 A_rfl_takeTable_76 m z.2) := by
  unfold rfl_takeTable_76
  refine RP_ite (fun h1 => ?_) (fun h1 => ?_)
  · skip
    refine RP_ite (fun h2 => ?_) (fun h2 => ?_)
    · skip
      refine RP_bnd (uw_rfb_takeTable_101 v1 (0, 0, m)) (RP_sl (fun e76 h3 => ?_) (fun e79 h5 => ?_))
      · skip
        have h4 : UR F_rfl_takeTable_76 A_rfl_takeTable_76 m e76 := (UR_s h3 UR_0 rfl rfl)
        exact RP_some h4
      · skip
        have h6 : UR F_rfl_takeTable_76 A_rfl_takeTable_76 m e79.2.2 := (UR_s h5 UR_0 rfl rfl)
        exact RP_w (u_rfl_takeTable_384 v1 e79.1 e79.2.1 e79.2.2) (fun z hz => (UR_s hz h6 rfl rfl))
    · skip
      refine RP_bnd (u_rf_bad m) (fun y84 h7 => ?_)
      have h8 : UR F_rfl_takeTable_76 A_rfl_takeTable_76 m y84.2 := (UR_s h7 UR_0 rfl rfl)
      refine RP_bnd (uw_rfb_takeTable_101 v1 (0, 0, y84.2)) (RP_sl (fun e87 h9 => ?_) (fun e90 h11 => ?_))
      · skip
        have h10 : UR F_rfl_takeTable_76 A_rfl_takeTable_76 m e87 := (UR_s h9 h8 rfl rfl)
        exact RP_some h10
      · skip
        have h12 : UR F_rfl_takeTable_76 A_rfl_takeTable_76 m e90.2.2 := (UR_s h11 h8 rfl rfl)
        exact RP_w (u_rfl_takeTable_384 v1 e90.1 e90.2.1 e90.2.2) (fun z hz => (UR_s hz h12 rfl rfl))
  · skip
    refine RP_bnd (uw_rfb_takeTable_101 v1 (0, 0, m)) (RP_sl (fun e67 h13 => ?_) (fun e70 h15 => ?_))
    · skip
      have h14 : UR F_rfl_takeTable_76 A_rfl_takeTable_76 m e67 := (UR_s h13 UR_0 rfl rfl)
      exact RP_some h14
    · skip
      have h16 : UR F_rfl_takeTable_76 A_rfl_takeTable_76 m e70.2.2 := (UR_s h15 UR_0 rfl rfl)
      exact RP_w (u_rfl_takeTable_384 v1 e70.1 e70.2.1 e70.2.2) (fun z hz => (UR_s hz h16 rfl rfl))
def F_rfl_takeTable_16 : List Nat := [7, 8, 9, 10, 11, 12, 26, 28, 69, 70, 71, 72, 73, 74, 75]
def A_rfl_takeTable_16 : List Nat := [51, 52, 53, 54, 55, 56, 57, 58, 59, 65, 66, 67, 68, 76, 77, 78, 79, 80, 81, 82, 83, 84, 85, 86, 87, 88, 89, 90, 91, 92, 110, 111, 112, 113, 114, 115, 116]
theorem u_rfl_takeTable_16 (u0 : Int) (m : mR) : RP (rfl_takeTable_16 u0 m) (fun z : Int × mR => UR F_rfl_takeTable_16 A_rfl_takeTable_16 m z.2) := by
  unfold rfl_takeTable_16
  refine RP_ite (fun h1 => ?_) (fun h1 => ?_)
  · skip
    exact RP_some UR_0
  · skip
    refine RP_bnd (u_rf_need 123 (mO m [(26, cut ((m.1 26) + 1))] [(51, upI (m.2 51) (m.1 26) 0), (52, upI (m.2 52) (m.1 26) 0), (53, upI (m.2 53) (m.1 26) 0), (58, upI (m.2 58) (m.1 26) (nar1 1)), (59, upI (m.2 59) (m.1 26) (nar1 0))])) (fun y96 h2 => ?_)
    have h3 : UR F_rfl_takeTable_16 A_rfl_takeTable_16 m y96.2 := (UR_s h2 (UR_m UR_0 rfl rfl (fun h => h)) rfl rfl)
    exact RP_w (u_rfl_takeTable_76 (m.1 26) y96.2) (fun z hz => (UR_s hz h3 rfl rfl))
def F_rfl_takeTable_4 : List Nat := [7, 8, 9, 10, 11, 12, 13, 26, 28, 69, 70, 71, 72, 73, 74, 75]
def A_rfl_takeTable_4 : List Nat := [14, 15, 16, 17, 51, 52, 53, 54, 55, 56, 57, 58, 59, 65, 66, 67, 68, 76, 77, 78, 79, 80, 81, 82, 83, 84, 85, 86, 87, 88, 89, 90, 91, 92, 110, 111, 112, 113, 114, 115, 116]
theorem u_rfl_takeTable_4 (m : mR) : RP (rfl_takeTable_4 m) (fun z : Int × mR => UR F_rfl_takeTable_4 A_rfl_takeTable_4 m z.2) := by
  unfold rfl_takeTable_4
  refine RP_bnd (u_rf_newName 7 (m.1 26) 8 m) (fun y99 h1 => ?_)
  have h2 : UR F_rfl_takeTable_4 A_rfl_takeTable_4 m y99.2 := (UR_s h1 UR_0 rfl rfl)
  exact RP_w (u_rfl_takeTable_16 y99.1 y99.2) (fun z hz => (UR_s hz h2 rfl rfl))
theorem u_rf_takeTable (m : mR) : RP (rf_takeTable m) (fun z : Int × mR => UR rF_takeTable rA_takeTable m z.2) := by
  unfold rf_takeTable
  refine RP_bnd (u_rf_next m) (fun y102 h1 => ?_)
  have h2 : UR rF_takeTable rA_takeTable m y102.2 := (UR_s h1 UR_0 rfl rfl)
  exact RP_w (u_rfl_takeTable_4 y102.2) (fun z hz => (UR_s hz h2 rfl rfl))
def rF_takeOne : List Nat := [7, 8, 9, 10, 11, 12, 13, 19, 20, 21, 22, 23, 24, 25, 26, 28, 64, 69, 70, 71, 72, 73, 74, 75, 99, 100]
def rA_takeOne : List Nat := [14, 15, 16, 17, 29, 30, 31, 32, 33, 34, 35, 36, 37, 38, 39, 40, 41, 42, 43, 44, 45, 46, 47, 48, 49, 50, 51, 52, 53, 54, 55, 56, 57, 58, 59, 65, 66, 67, 68, 76, 77, 78, 79, 80, 81, 82, 83, 84, 85, 86, 87, 88, 89, 90, 91, 92, 93, 94, 95, 96, 97, 98, 101, 102, 103, 104, 105, 106, 107, 108, 109, 110, 111, 112, 113, 114, 115, 116]
theorem u_rf_takeOne (m : mR) : RP (rf_takeOne m) (fun z : Int × mR => UR rF_takeOne rA_takeOne m z.2) := by
  unfold rf_takeOne
  refine RP_ite (fun h1 => ?_) (fun h1 => ?_)
  · skip
    refine RP_bnd (u_rf_takeHeader m) (fun y2 h2 => ?_)
    have h3 : UR rF_takeOne rA_takeOne m y2.2 := (UR_s h2 UR_0 rfl rfl)
    exact RP_some h3
  · skip
    refine RP_ite (fun h4 => ?_) (fun h4 => ?_)
    · skip
      refine RP_bnd (u_rf_takeUse m) (fun y6 h5 => ?_)
      have h6 : UR rF_takeOne rA_takeOne m y6.2 := (UR_s h5 UR_0 rfl rfl)
      exact RP_some h6
    · skip
      refine RP_ite (fun h7 => ?_) (fun h7 => ?_)
      · skip
        refine RP_bnd (u_rf_takeMeta m) (fun y10 h8 => ?_)
        have h9 : UR rF_takeOne rA_takeOne m y10.2 := (UR_s h8 UR_0 rfl rfl)
        exact RP_some h9
      · skip
        refine RP_ite (fun h10 => ?_) (fun h10 => ?_)
        · skip
          refine RP_bnd (u_rf_takeArray m) (fun y14 h11 => ?_)
          have h12 : UR rF_takeOne rA_takeOne m y14.2 := (UR_s h11 UR_0 rfl rfl)
          exact RP_some h12
        · skip
          refine RP_ite (fun h13 => ?_) (fun h13 => ?_)
          · skip
            refine RP_bnd (u_rf_takeState m) (fun y18 h14 => ?_)
            have h15 : UR rF_takeOne rA_takeOne m y18.2 := (UR_s h14 UR_0 rfl rfl)
            exact RP_some h15
          · skip
            refine RP_ite (fun h16 => ?_) (fun h16 => ?_)
            · skip
              refine RP_bnd (u_rf_takeAction m) (fun y22 h17 => ?_)
              have h18 : UR rF_takeOne rA_takeOne m y22.2 := (UR_s h17 UR_0 rfl rfl)
              exact RP_some h18
            · skip
              refine RP_ite (fun h19 => ?_) (fun h19 => ?_)
              · skip
                refine RP_bnd (u_rf_takeTable m) (fun y26 h20 => ?_)
                have h21 : UR rF_takeOne rA_takeOne m y26.2 := (UR_s h20 UR_0 rfl rfl)
                exact RP_some h21
              · skip
                refine RP_ite (fun h22 => ?_) (fun h22 => ?_)
                · skip
                  exact RP_some UR_0
                · skip
                  refine RP_ite (fun h23 => ?_) (fun h23 => ?_)
                  · skip
                    exact RP_some UR_0
                  · skip
                    refine RP_ite (fun h24 => ?_) (fun h24 => ?_)
                    · skip
                      exact RP_some UR_0
                    · skip
                      refine RP_ite (fun h25 => ?_) (fun h25 => ?_)
                      · skip
                        exact RP_some UR_0
                      · skip
                        exact RP_some UR_0
def rF_openBlock : List Nat := [7, 8, 9, 10, 11, 12, 119]
def rA_openBlock : List Nat := [117, 118]
def F_rfl_openBlock_40 : List Nat := [119]
def A_rfl_openBlock_40 : List Nat := [117, 118]
theorem u_rfl_openBlock_40 (v1 : Int) (v2 : Int) (m : mR) : RP (rfl_openBlock_40 v1 v2 m) (fun z : Int × mR => UR F_rfl_openBlock_40 A_rfl_openBlock_40 m z.2) := by
  unfold rfl_openBlock_40
  refine RP_ite (fun h1 => ?_) (fun h1 => ?_)
  · skip
    exact RP_some (UR_m UR_0 rfl rfl (fun h => h))
  · skip
    exact RP_some UR_0
def F_rfl_openBlock_34 : List Nat := [7, 8, 9, 10, 11, 12, 119]
def A_rfl_openBlock_34 : List Nat := [117, 118]
theorem u_rfl_openBlock_34 (v1 : Int) (v2 : Int) (m : mR) : RP (rfl_openBlock_34 v1 v2 m) (fun z : Int × mR => UR F_rfl_openBlock_34 A_rfl_openBlock_34 m z.2) := by
  unfold rfl_openBlock_34
  refine RP_bnd (u_rf_need 123 m) (fun y2 h1 => ?_)
  have h2 : UR F_rfl_openBlock_34 A_rfl_openBlock_34 m y2.2 := (UR_s h1 UR_0 rfl rfl)
  exact RP_w (u_rfl_openBlock_40 v1 v2 y2.2) (fun z hz => (UR_s hz h2 rfl rfl))
theorem u_rf_openBlock (v1 : Int) (v2 : Int) (m : mR) : RP (rf_openBlock v1 v2 m) (fun z : Int × mR => UR rF_openBlock rA_openBlock m z.2) := by
  unfold rf_openBlock
  refine RP_ite (fun h1 => ?_) (fun h1 => ?_)
  · skip
    refine RP_ite (fun h2 => ?_) (fun h2 => ?_)
    · skip
      refine RP_ite (fun h3 => ?_) (fun h3 => ?_)
      · skip
        refine RP_bnd (u_rf_wrong 4 (m.1 8) m) (fun y8 h4 => ?_)
        have h5 : UR rF_openBlock rA_openBlock m y8.2 := (UR_s h4 UR_0 rfl rfl)
        exact RP_w (u_rfl_openBlock_34 v1 v2 y8.2) (fun z hz => (UR_s hz h5 rfl rfl))
      · skip
        exact RP_w (u_rfl_openBlock_34 v1 v2 m) (fun z hz => (UR_s hz UR_0 rfl rfl))
    · skip
      exact RP_w (u_rfl_openBlock_34 v1 v2 m) (fun z hz => (UR_s hz UR_0 rfl rfl))
  · skip
    exact RP_w (u_rfl_openBlock_34 v1 v2 m) (fun z hz => (UR_s hz UR_0 rfl rfl))
def rF_newStep : List Nat := [10, 11, 27]
def rA_newStep : List Nat := [60, 61, 62, 63]
def F_rfl_newStep_18 : List Nat := [27]
def A_rfl_newStep_18 : List Nat := [60, 61, 62, 63]
theorem u_rfl_newStep_18 (v1 : Int) (m : mR) : RP (rfl_newStep_18 v1 m) (fun z : Int × mR => UR F_rfl_newStep_18 A_rfl_newStep_18 m z.2) := by
  unfold rfl_newStep_18
  refine RP_ite (fun h1 => ?_) (fun h1 => ?_)
  · skip
    exact RP_some (UR_m UR_0 rfl rfl (fun h => h))
  · skip
    exact RP_some UR_0
theorem u_rf_newStep (v1 : Int) (m : mR) : RP (rf_newStep v1 m) (fun z : Int × mR => UR rF_newStep rA_newStep m z.2) := by
  unfold rf_newStep
  refine RP_ite (fun h1 => ?_) (fun h1 => ?_)
  · skip
    refine RP_bnd (u_rf_wrong 4 (m.1 8) m) (fun y3 h2 => ?_)
    have h3 : UR rF_newStep rA_newStep m y3.2 := (UR_s h2 UR_0 rfl rfl)
    exact RP_w (u_rfl_newStep_18 v1 y3.2) (fun z hz => (UR_s hz h3 rfl rfl))
  · skip
    exact RP_w (u_rfl_newStep_18 v1 m) (fun z hz => (UR_s hz UR_0 rfl rfl))
def rF_closeBlock : List Nat := [7, 8, 9, 10, 11, 12, 119]
def rA_closeBlock : List Nat := [117, 118]
def F_rfl_closeBlock_69 : List Nat := [7, 8, 9, 10, 11, 12, 119]
def A_rfl_closeBlock_69 : List Nat := [117, 118]
theorem u_rfl_closeBlock_69 (v1 : Int) (m : mR) : RP (rfl_closeBlock_69 v1 m) (fun z : Int × mR => UR F_rfl_closeBlock_69 A_rfl_closeBlock_69 m z.2) := by
  unfold rfl_closeBlock_69
  refine RP_bnd (u_rf_openBlock v1 0 m) (fun y1 h1 => ?_)
  have h2 : UR F_rfl_closeBlock_69 A_rfl_closeBlock_69 m y1.2 := (UR_s h1 UR_0 rfl rfl)
  exact RP_some h2
def F_rfl_closeBlock_6 : List Nat := [7, 8, 9, 10, 11, 12, 119]
def A_rfl_closeBlock_6 : List Nat := [117, 118]
theorem u_rfl_closeBlock_6 (m : mR) : RP (rfl_closeBlock_6 m) (fun z : Int × mR => UR F_rfl_closeBlock_6 A_rfl_closeBlock_6 m z.2) := by
  unfold rfl_closeBlock_6
  refine RP_ite (fun h1 => ?_) (fun h1 => ?_)
  · skip
    refine RP_ite (fun h2 => ?_) (fun h2 => ?_)
    · skip
      exact RP_some (UR_m UR_0 rfl rfl (fun h => h))
    · skip
      refine RP_ite (fun h3 => ?_) (fun h3 => ?_)
      · skip
        refine RP_ite (fun h4 => ?_) (fun h4 => ?_)
        · skip
          refine RP_bnd (u_rf_next (mO m [(119, cut ((m.1 119) - 1))] [])) (fun y8 h5 => ?_)
          have h6 : UR F_rfl_closeBlock_6 A_rfl_closeBlock_6 m y8.2 := (UR_s h5 (UR_m UR_0 rfl rfl (fun h => h)) rfl rfl)
          exact RP_w (u_rfl_closeBlock_69 ((m.2 117) (cut ((m.1 119) - 1))) y8.2) (fun z hz => (UR_s hz h6 rfl rfl))
        · skip
          exact RP_some (UR_m UR_0 rfl rfl (fun h => h))
      · skip
        exact RP_some (UR_m UR_0 rfl rfl (fun h => h))
  · skip
    exact RP_some UR_0
theorem u_rf_closeBlock (m : mR) : RP (rf_closeBlock m) (fun z : Int × mR => UR rF_closeBlock rA_closeBlock m z.2) := by
  unfold rf_closeBlock
  refine RP_bnd (u_rf_need 125 m) (fun y11 h1 => ?_)
  have h2 : UR rF_closeBlock rA_closeBlock m y11.2 := (UR_s h1 UR_0 rfl rfl)
  exact RP_w (u_rfl_closeBlock_6 y11.2) (fun z hz => (UR_s hz h2 rfl rfl))
def rF_takeControl : List Nat := [7, 8, 9, 10, 11, 12, 27, 28, 69, 70, 71, 72, 73, 74, 75, 99, 100, 119]
def rA_takeControl : List Nat := [59, 60, 61, 62, 63, 65, 66, 67, 68, 76, 77, 78, 79, 80, 81, 82, 83, 84, 85, 86, 87, 88, 89, 90, 91, 92, 101, 102, 103, 104, 105, 106, 107, 108, 117, 118, 120, 121, 122]
def F_rfl_takeControl_233 : List Nat := [7, 8, 9, 10, 11, 12, 119]
def A_rfl_takeControl_233 : List Nat := [117, 118]
theorem u_rfl_takeControl_233 (v1 : Int) (m : mR) : RP (rfl_takeControl_233 v1 m) (sel (fun z : (mR) => UR F_rfl_takeControl_233 A_rfl_takeControl_233 m z) (sel (fun z : (mR) => UR F_rfl_takeControl_233 A_rfl_takeControl_233 m z) (fun z : mR => UR F_rfl_takeControl_233 A_rfl_takeControl_233 m z))) := by
  unfold rfl_takeControl_233
  refine RP_bnd (u_rf_openBlock v1 1 m) (fun y3 h1 => ?_)
  have h2 : UR F_rfl_takeControl_233 A_rfl_takeControl_233 m y3.2 := (UR_s h1 UR_0 rfl rfl)
  exact RP_some h2
def F_rfl_takeControl_196 : List Nat := [7, 8, 9, 10, 11, 12, 119]
def A_rfl_takeControl_196 : List Nat := [117, 118, 122]
theorem u_rfl_takeControl_196 (v1 : Int) (m : mR) : RP (rfl_takeControl_196 v1 m) (sel (fun z : (mR) => UR F_rfl_takeControl_196 A_rfl_takeControl_196 m z) (sel (fun z : (mR) => UR F_rfl_takeControl_196 A_rfl_takeControl_196 m z) (fun z : mR => UR F_rfl_takeControl_196 A_rfl_takeControl_196 m z))) := by
  unfold rfl_takeControl_196
  refine RP_ite (fun h1 => ?_) (fun h1 => ?_)
  · skip
    refine RP_bnd (u_rf_wantBit (m.1 69) (m.1 71) (m.1 72) (m.1 70) (mO m [] [(122, upI (m.2 122) v1 (m.1 28))])) (fun y7 h2 => ?_)
    have h3 : UR F_rfl_takeControl_196 A_rfl_takeControl_196 m y7.2 := (UR_s h2 (UR_m UR_0 rfl rfl (fun h => h)) rfl rfl)
    exact RP_w (u_rfl_takeControl_233 v1 y7.2) (sl_w (fun z hz => (UR_s hz h3 rfl rfl)) (sl_w (fun z hz => (UR_s hz h3 rfl rfl)) (fun z hz => (UR_s hz h3 rfl rfl))))
  · skip
    exact RP_w (u_rfl_takeControl_233 v1 (mO m [] [(122, upI (m.2 122) v1 (m.1 28))])) (sl_w (fun z hz => (UR_s hz (UR_m UR_0 rfl rfl (fun h => h)) rfl rfl)) (sl_w (fun z hz => (UR_s hz (UR_m UR_0 rfl rfl (fun h => h)) rfl rfl)) (fun z hz => (UR_s hz (UR_m UR_0 rfl rfl (fun h => h)) rfl rfl))))
def F_rfl_takeControl_175 : List Nat := [7, 8, 9, 10, 11, 12, 28, 69, 70, 71, 72, 73, 74, 75, 119]
def A_rfl_takeControl_175 : List Nat := [65, 66, 67, 68, 76, 77, 78, 79, 80, 81, 82, 83, 84, 85, 86, 87, 88, 89, 90, 91, 92, 117, 118, 121, 122]
theorem u_rfl_takeControl_175 (v1 : Int) (m : mR) : RP (rfl_takeControl_175 v1 m) (sel (fun z : (mR) => UR F_rfl_takeControl_175 A_rfl_takeControl_175 m z) (sel (fun z : (mR) => UR F_rfl_takeControl_175 A_rfl_takeControl_175 m z) (fun z : mR => UR F_rfl_takeControl_175 A_rfl_takeControl_175 m z))) := by
  unfold rfl_takeControl_175
  refine RP_ite (fun h1 => ?_) (fun h1 => ?_)
  · skip
    refine RP_bnd (u_rf_readExpr (mO m [] [(121, upI (m.2 121) v1 (m.1 28))])) (fun y11 h2 => ?_)
    have h3 : UR F_rfl_takeControl_175 A_rfl_takeControl_175 m y11.2 := (UR_s h2 (UR_m UR_0 rfl rfl (fun h => h)) rfl rfl)
    exact RP_w (u_rfl_takeControl_196 v1 y11.2) (sl_w (fun z hz => (UR_s hz h3 rfl rfl)) (sl_w (fun z hz => (UR_s hz h3 rfl rfl)) (fun z hz => (UR_s hz h3 rfl rfl))))
  · skip
    exact RP_w (u_rfl_takeControl_196 v1 (mO m [] [(121, upI (m.2 121) v1 (m.1 28))])) (sl_w (fun z hz => (UR_s hz (UR_m UR_0 rfl rfl (fun h => h)) rfl rfl)) (sl_w (fun z hz => (UR_s hz (UR_m UR_0 rfl rfl (fun h => h)) rfl rfl)) (fun z hz => (UR_s hz (UR_m UR_0 rfl rfl (fun h => h)) rfl rfl))))
def F_rfl_takeControl_170 : List Nat := [7, 8, 9, 10, 11, 12, 28, 69, 70, 71, 72, 73, 74, 75, 119]
def A_rfl_takeControl_170 : List Nat := [65, 66, 67, 68, 76, 77, 78, 79, 80, 81, 82, 83, 84, 85, 86, 87, 88, 89, 90, 91, 92, 117, 118, 121, 122]
theorem u_rfl_takeControl_170 (u0 : Int) (m : mR) : RP (rfl_takeControl_170 u0 m) (sel (fun z : (mR) => UR F_rfl_takeControl_170 A_rfl_takeControl_170 m z) (sel (fun z : (mR) => UR F_rfl_takeControl_170 A_rfl_takeControl_170 m z) (fun z : mR => UR F_rfl_takeControl_170 A_rfl_takeControl_170 m z))) := by
  unfold rfl_takeControl_170
  refine RP_bnd (u_rf_next m) (fun y14 h1 => ?_)
  have h2 : UR F_rfl_takeControl_170 A_rfl_takeControl_170 m y14.2 := (UR_s h1 UR_0 rfl rfl)
  exact RP_w (u_rfl_takeControl_175 u0 y14.2) (sl_w (fun z hz => (UR_s hz h2 rfl rfl)) (sl_w (fun z hz => (UR_s hz h2 rfl rfl)) (fun z hz => (UR_s hz h2 rfl rfl))))
def F_rfl_takeControl_130 : List Nat := []
def A_rfl_takeControl_130 : List Nat := [59, 63]
theorem u_rfl_takeControl_130 (v1 : Int) (v3 : Int) (m : mR) : RP (rfl_takeControl_130 v1 v3 m) (sel (fun z : (mR) => UR F_rfl_takeControl_130 A_rfl_takeControl_130 m z) (sel (fun z : (mR) => UR F_rfl_takeControl_130 A_rfl_takeControl_130 m z) (fun z : mR => UR F_rfl_takeControl_130 A_rfl_takeControl_130 m z))) := by
  unfold rfl_takeControl_130
  refine RP_ite (fun h1 => ?_) (fun h1 => ?_)
  · skip
    exact RP_some (UR_m UR_0 rfl rfl (fun h => h))
  · skip
    exact RP_some UR_0
def F_rfl_takeControl_124 : List Nat := [7, 8, 9, 10, 11, 12]
def A_rfl_takeControl_124 : List Nat := [59, 63]
theorem u_rfl_takeControl_124 (v1 : Int) (v3 : Int) (m : mR) : RP (rfl_takeControl_124 v1 v3 m) (sel (fun z : (mR) => UR F_rfl_takeControl_124 A_rfl_takeControl_124 m z) (sel (fun z : (mR) => UR F_rfl_takeControl_124 A_rfl_takeControl_124 m z) (fun z : mR => UR F_rfl_takeControl_124 A_rfl_takeControl_124 m z))) := by
  unfold rfl_takeControl_124
  refine RP_bnd (u_rf_need 59 m) (fun y18 h1 => ?_)
  have h2 : UR F_rfl_takeControl_124 A_rfl_takeControl_124 m y18.2 := (UR_s h1 UR_0 rfl rfl)
  exact RP_w (u_rfl_takeControl_130 v1 v3 y18.2) (sl_w (fun z hz => (UR_s hz h2 rfl rfl)) (sl_w (fun z hz => (UR_s hz h2 rfl rfl)) (fun z hz => (UR_s hz h2 rfl rfl))))
def F_rfl_takeControl_100 : List Nat := [7, 8, 9, 10, 11, 12]
def A_rfl_takeControl_100 : List Nat := [59, 63]
theorem u_rfl_takeControl_100 (v1 : Int) (v2 : Int) (u0 : Int) (m : mR) : RP (rfl_takeControl_100 v1 v2 u0 m) (sel (fun z : (mR) => UR F_rfl_takeControl_100 A_rfl_takeControl_100 m z) (sel (fun z : (mR) => UR F_rfl_takeControl_100 A_rfl_takeControl_100 m z) (fun z : mR => UR F_rfl_takeControl_100 A_rfl_takeControl_100 m z))) := by
  unfold rfl_takeControl_100
  refine RP_ite (fun h1 => ?_) (fun h1 => ?_)
  · skip
    refine RP_ite (fun h2 => ?_) (fun h2 => ?_)
    · skip
      exact RP_w (u_rfl_takeControl_124 v1 u0 m) (sl_w (fun z hz => (UR_s hz UR_0 rfl rfl)) (sl_w (fun z hz => (UR_s hz UR_0 rfl rfl)) (fun z hz => (UR_s hz UR_0 rfl rfl))))
    · skip
      refine RP_bnd (u_rf_wrong 8 v2 m) (fun y23 h3 => ?_)
      have h4 : UR F_rfl_takeControl_100 A_rfl_takeControl_100 m y23.2 := (UR_s h3 UR_0 rfl rfl)
      exact RP_w (u_rfl_takeControl_124 v1 u0 y23.2) (sl_w (fun z hz => (UR_s hz h4 rfl rfl)) (sl_w (fun z hz => (UR_s hz h4 rfl rfl)) (fun z hz => (UR_s hz h4 rfl rfl))))
  · skip
    exact RP_w (u_rfl_takeControl_124 v1 u0 m) (sl_w (fun z hz => (UR_s hz UR_0 rfl rfl)) (sl_w (fun z hz => (UR_s hz UR_0 rfl rfl)) (fun z hz => (UR_s hz UR_0 rfl rfl))))
def F_rfl_takeControl_89 : List Nat := [7, 8, 9, 10, 11, 12]
def A_rfl_takeControl_89 : List Nat := [59, 63]
theorem u_rfl_takeControl_89 (v1 : Int) (m : mR) : RP (rfl_takeControl_89 v1 m) (sel (fun z : (mR) => UR F_rfl_takeControl_89 A_rfl_takeControl_89 m z) (sel (fun z : (mR) => UR F_rfl_takeControl_89 A_rfl_takeControl_89 m z) (fun z : mR => UR F_rfl_takeControl_89 A_rfl_takeControl_89 m z))) := by
  unfold rfl_takeControl_89
  refine RP_bnd (u_rf_oldName 7 m) (fun y26 h1 => ?_)
  have h2 : UR F_rfl_takeControl_89 A_rfl_takeControl_89 m y26.2 := (UR_s h1 UR_0 rfl rfl)
  exact RP_w (u_rfl_takeControl_100 v1 (m.1 8) y26.1 y26.2) (sl_w (fun z hz => (UR_s hz h2 rfl rfl)) (sl_w (fun z hz => (UR_s hz h2 rfl rfl)) (fun z hz => (UR_s hz h2 rfl rfl))))
def F_rfl_takeControl_84 : List Nat := [7, 8, 9, 10, 11, 12]
def A_rfl_takeControl_84 : List Nat := [59, 63]
theorem u_rfl_takeControl_84 (u0 : Int) (m : mR) : RP (rfl_takeControl_84 u0 m) (sel (fun z : (mR) => UR F_rfl_takeControl_84 A_rfl_takeControl_84 m z) (sel (fun z : (mR) => UR F_rfl_takeControl_84 A_rfl_takeControl_84 m z) (fun z : mR => UR F_rfl_takeControl_84 A_rfl_takeControl_84 m z))) := by
  unfold rfl_takeControl_84
  refine RP_bnd (u_rf_next m) (fun y29 h1 => ?_)
  have h2 : UR F_rfl_takeControl_84 A_rfl_takeControl_84 m y29.2 := (UR_s h1 UR_0 rfl rfl)
  exact RP_w (u_rfl_takeControl_89 u0 y29.2) (sl_w (fun z hz => (UR_s hz h2 rfl rfl)) (sl_w (fun z hz => (UR_s hz h2 rfl rfl)) (fun z hz => (UR_s hz h2 rfl rfl))))
def F_rfl_takeControl_66 : List Nat := []
def A_rfl_takeControl_66 : List Nat := []
theorem u_rfl_takeControl_66 (m : mR) : RP (rfl_takeControl_66 m) (sel (fun z : (mR) => UR F_rfl_takeControl_66 A_rfl_takeControl_66 m z) (sel (fun z : (mR) => UR F_rfl_takeControl_66 A_rfl_takeControl_66 m z) (fun z : mR => UR F_rfl_takeControl_66 A_rfl_takeControl_66 m z))) := by
  unfold rfl_takeControl_66
  exact RP_some UR_0
def F_rfl_takeControl_44 : List Nat := [7, 8, 9, 10, 11, 12, 28, 69, 70, 71, 72, 73, 74, 75, 99, 100]
def A_rfl_takeControl_44 : List Nat := [65, 66, 67, 68, 76, 77, 78, 79, 80, 81, 82, 83, 84, 85, 86, 87, 88, 89, 90, 91, 92, 101, 102, 103, 104, 105, 106, 107, 108, 120]
theorem u_rfl_takeControl_44 (u0 : Int) (m : mR) : RP (rfl_takeControl_44 u0 m) (sel (fun z : (mR) => UR F_rfl_takeControl_44 A_rfl_takeControl_44 m z) (sel (fun z : (mR) => UR F_rfl_takeControl_44 A_rfl_takeControl_44 m z) (fun z : mR => UR F_rfl_takeControl_44 A_rfl_takeControl_44 m z))) := by
  unfold rfl_takeControl_44
  refine RP_ite (fun h1 => ?_) (fun h1 => ?_)
  · skip
    refine RP_bnd (u_rf_takeStatement (mO m [] [(120, upI (m.2 120) u0 (m.1 99))])) (fun y33 h2 => ?_)
    have h3 : UR F_rfl_takeControl_44 A_rfl_takeControl_44 m y33.2 := (UR_s h2 (UR_m UR_0 rfl rfl (fun h => h)) rfl rfl)
    exact RP_w (u_rfl_takeControl_66 y33.2) (sl_w (fun z hz => (UR_s hz h3 rfl rfl)) (sl_w (fun z hz => (UR_s hz h3 rfl rfl)) (fun z hz => (UR_s hz h3 rfl rfl))))
  · skip
    exact RP_w (u_rfl_takeControl_66 (mO m [] [(120, upI (m.2 120) u0 (m.1 99))])) (sl_w (fun z hz => (UR_s hz (UR_m UR_0 rfl rfl (fun h => h)) rfl rfl)) (sl_w (fun z hz => (UR_s hz (UR_m UR_0 rfl rfl (fun h => h)) rfl rfl)) (fun z hz => (UR_s hz (UR_m UR_0 rfl rfl (fun h => h)) rfl rfl))))
def F_rfb_takeControl_18 : List Nat := [7, 8, 9, 10, 11, 12, 27, 28, 69, 70, 71, 72, 73, 74, 75, 99, 100, 119]
def A_rfb_takeControl_18 : List Nat := [59, 60, 61, 62, 63, 65, 66, 67, 68, 76, 77, 78, 79, 80, 81, 82, 83, 84, 85, 86, 87, 88, 89, 90, 91, 92, 101, 102, 103, 104, 105, 106, 107, 108, 117, 118, 120, 121, 122]
theorem u_rfb_takeControl_18 (s : mR) : RP (rfb_takeControl_18 s) (sel (fun z : (mR) => UR F_rfb_takeControl_18 A_rfb_takeControl_18 s z) (sel (fun z : (mR) => UR F_rfb_takeControl_18 A_rfb_takeControl_18 s z) (fun z : mR => UR F_rfb_takeControl_18 A_rfb_takeControl_18 s z))) := by
  unfold rfb_takeControl_18
  refine RP_ite (fun h1 => ?_) (fun h1 => ?_)
  · skip
    refine RP_ite (fun h2 => ?_) (fun h2 => ?_)
    · skip
      exact RP_some UR_0
    · skip
      refine RP_bndT (fun y40 => ?_)
      refine RP_ite (fun h3 => ?_) (fun h3 => ?_)
      · skip
        refine RP_ite (fun h4 => ?_) (fun h4 => ?_)
        · skip
          refine RP_bnd (u_rf_newStep 2 s) (fun y51 h5 => ?_)
          have h6 : UR F_rfb_takeControl_18 A_rfb_takeControl_18 s y51.2 := (UR_s h5 UR_0 rfl rfl)
          exact RP_w (u_rfl_takeControl_84 y51.1 y51.2) (sl_w (fun z hz => (UR_s hz h6 rfl rfl)) (sl_w (fun z hz => (UR_s hz h6 rfl rfl)) (fun z hz => (UR_s hz h6 rfl rfl))))
        · skip
          refine RP_ite (fun h7 => ?_) (fun h7 => ?_)
          · skip
            refine RP_bnd (u_rf_newStep 1 s) (fun y48 h8 => ?_)
            have h9 : UR F_rfb_takeControl_18 A_rfb_takeControl_18 s y48.2 := (UR_s h8 UR_0 rfl rfl)
            exact RP_w (u_rfl_takeControl_170 y48.1 y48.2) (sl_w (fun z hz => (UR_s hz h9 rfl rfl)) (sl_w (fun z hz => (UR_s hz h9 rfl rfl)) (fun z hz => (UR_s hz h9 rfl rfl))))
          · skip
            refine RP_bnd (u_rf_closeBlock s) (fun y45 h10 => ?_)
            have h11 : UR F_rfb_takeControl_18 A_rfb_takeControl_18 s y45.2 := (UR_s h10 UR_0 rfl rfl)
            exact RP_some h11
      · skip
        refine RP_bnd (u_rf_newStep 0 s) (fun y54 h12 => ?_)
        have h13 : UR F_rfb_takeControl_18 A_rfb_takeControl_18 s y54.2 := (UR_s h12 UR_0 rfl rfl)
        exact RP_w (u_rfl_takeControl_44 y54.1 y54.2) (sl_w (fun z hz => (UR_s hz h13 rfl rfl)) (sl_w (fun z hz => (UR_s hz h13 rfl rfl)) (fun z hz => (UR_s hz h13 rfl rfl))))
  · skip
    exact RP_some UR_0
theorem uw_rfb_takeControl_18 (s : mR) : RP (whl rfb_takeControl_18 s) (sel (fun z : ((mR)) => UR F_rfb_takeControl_18 A_rfb_takeControl_18 s z) (fun z : mR => UR F_rfb_takeControl_18 A_rfb_takeControl_18 s z)) := RP_whl (I := fun q : mR => UR F_rfb_takeControl_18 A_rfb_takeControl_18 s q) (fun q hq => RP_w (u_rfb_takeControl_18 q) (sl_w (fun z hz => (UR_s hz hq rfl rfl)) (sl_w (fun z hz => (UR_s hz hq rfl rfl)) (fun z hz => (UR_s hz hq rfl rfl))))) UR_0
def F_rfl_takeControl_7 : List Nat := [7, 8, 9, 10, 11, 12, 27, 28, 69, 70, 71, 72, 73, 74, 75, 99, 100, 119]
def A_rfl_takeControl_7 : List Nat := [59, 60, 61, 62, 63, 65, 66, 67, 68, 76, 77, 78, 79, 80, 81, 82, 83, 84, 85, 86, 87, 88, 89, 90, 91, 92, 101, 102, 103, 104, 105, 106, 107, 108, 117, 118, 120, 121, 122]
theorem u_rfl_takeControl_7 (m : mR) : RP (rfl_takeControl_7 m) (fun z : Int × mR => UR F_rfl_takeControl_7 A_rfl_takeControl_7 m z.2) := by
  unfold rfl_takeControl_7
  refine RP_bnd (u_rf_openBlock (-1) (-1) (mO m [(119, 0)] [])) (fun y57 h1 => ?_)
  have h2 : UR F_rfl_takeControl_7 A_rfl_takeControl_7 m y57.2 := (UR_s h1 (UR_m UR_0 rfl rfl (fun h => h)) rfl rfl)
  refine RP_bnd (uw_rfb_takeControl_18 y57.2) (RP_sl (fun e60 h3 => ?_) (fun e63 h5 => ?_))
  · skip
    have h4 : UR F_rfl_takeControl_7 A_rfl_takeControl_7 m e60 := (UR_s h3 h2 rfl rfl)
    exact RP_some h4
  · skip
    have h6 : UR F_rfl_takeControl_7 A_rfl_takeControl_7 m e63 := (UR_s h5 h2 rfl rfl)
    exact RP_some h6
theorem u_rf_takeControl (m : mR) : RP (rf_takeControl m) (fun z : Int × mR => UR rF_takeControl rA_takeControl m z.2) := by
  unfold rf_takeControl
  refine RP_bnd (u_rf_need 319 m) (fun y66 h1 => ?_)
  have h2 : UR rF_takeControl rA_takeControl m y66.2 := (UR_s h1 UR_0 rfl rfl)
  exact RP_w (u_rfl_takeControl_7 y66.2) (fun z hz => (UR_s hz h2 rfl rfl))
