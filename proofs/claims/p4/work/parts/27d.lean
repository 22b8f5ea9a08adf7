def rF_takeControl : List Nat := [7, 8, 9, 10, 11, 12, 27, 28, 69, 70, 71, 72, 73, 74, 75, 99, 100, 119]
def rA_takeControl : List Nat := [59, 60, 61, 62, 63, 65, 66, 67, 68, 76, 77, 78, 79, 80, 81, 82, 83, 84, 85, 86, 87, 88, 89, 90, 91, 92, 101, 102, 103, 104, 105, 106, 107, 108, 117, 118, 120, 121, 122]
theorem u_rfl_takeControl_233 (v1 : Int) (m : mR) : RP (rfl_takeControl_233 v1 m) (sel (fun z : (mR) => UR rF_takeControl rA_takeControl m z) (sel (fun z : (mR) => UR rF_takeControl rA_takeControl m z) (fun z : mR => UR rF_takeControl rA_takeControl m z))) := by
  unfold rfl_takeControl_233
  refine RP_bnd (u_rf_openBlock v1 1 m) (fun y3 h1 => ?_)
  have h2 : UR rF_takeControl rA_takeControl m y3.2 := (UR_s h1 UR_0 rfl rfl)
  exact RP_some h2
theorem u_rfl_takeControl_196 (v1 : Int) (m : mR) : RP (rfl_takeControl_196 v1 m) (sel (fun z : (mR) => UR rF_takeControl rA_takeControl m z) (sel (fun z : (mR) => UR rF_takeControl rA_takeControl m z) (fun z : mR => UR rF_takeControl rA_takeControl m z))) := by
  unfold rfl_takeControl_196
  refine RP_ite (fun h1 => ?_) (fun h1 => ?_)
  · skip
    refine RP_bnd (u_rf_wantBit (m.1 69) (m.1 71) (m.1 72) (m.1 70) (mO m [] [(122, upI (m.2 122) v1 (m.1 28))])) (fun y7 h2 => ?_)
    have h3 : UR rF_takeControl rA_takeControl m y7.2 := (UR_s h2 (UR_m UR_0 rfl rfl (fun h => h)) rfl rfl)
    exact RP_w (u_rfl_takeControl_233 v1 y7.2) (sl_w (fun z hz => (UR_s hz h3 rfl rfl)) (sl_w (fun z hz => (UR_s hz h3 rfl rfl)) (fun z hz => (UR_s hz h3 rfl rfl))))
  · skip
    exact RP_w (u_rfl_takeControl_233 v1 (mO m [] [(122, upI (m.2 122) v1 (m.1 28))])) (sl_w (fun z hz => (UR_s hz (UR_m UR_0 rfl rfl (fun h => h)) rfl rfl)) (sl_w (fun z hz => (UR_s hz (UR_m UR_0 rfl rfl (fun h => h)) rfl rfl)) (fun z hz => (UR_s hz (UR_m UR_0 rfl rfl (fun h => h)) rfl rfl))))
theorem u_rfl_takeControl_175 (v1 : Int) (m : mR) : RP (rfl_takeControl_175 v1 m) (sel (fun z : (mR) => UR rF_takeControl rA_takeControl m z) (sel (fun z : (mR) => UR rF_takeControl rA_takeControl m z) (fun z : mR => UR rF_takeControl rA_takeControl m z))) := by
  unfold rfl_takeControl_175
  refine RP_ite (fun h1 => ?_) (fun h1 => ?_)
  · skip
    refine RP_bnd (u_rf_readExpr (mO m [] [(121, upI (m.2 121) v1 (m.1 28))])) (fun y11 h2 => ?_)
    have h3 : UR rF_takeControl rA_takeControl m y11.2 := (UR_s h2 (UR_m UR_0 rfl rfl (fun h => h)) rfl rfl)
    exact RP_w (u_rfl_takeControl_196 v1 y11.2) (sl_w (fun z hz => (UR_s hz h3 rfl rfl)) (sl_w (fun z hz => (UR_s hz h3 rfl rfl)) (fun z hz => (UR_s hz h3 rfl rfl))))
  · skip
    exact RP_w (u_rfl_takeControl_196 v1 (mO m [] [(121, upI (m.2 121) v1 (m.1 28))])) (sl_w (fun z hz => (UR_s hz (UR_m UR_0 rfl rfl (fun h => h)) rfl rfl)) (sl_w (fun z hz => (UR_s hz (UR_m UR_0 rfl rfl (fun h => h)) rfl rfl)) (fun z hz => (UR_s hz (UR_m UR_0 rfl rfl (fun h => h)) rfl rfl))))
theorem u_rfl_takeControl_170 (u0 : Int) (m : mR) : RP (rfl_takeControl_170 u0 m) (sel (fun z : (mR) => UR rF_takeControl rA_takeControl m z) (sel (fun z : (mR) => UR rF_takeControl rA_takeControl m z) (fun z : mR => UR rF_takeControl rA_takeControl m z))) := by
  unfold rfl_takeControl_170
  refine RP_bnd (u_rf_next m) (fun y14 h1 => ?_)
  have h2 : UR rF_takeControl rA_takeControl m y14.2 := (UR_s h1 UR_0 rfl rfl)
  exact RP_w (u_rfl_takeControl_175 u0 y14.2) (sl_w (fun z hz => (UR_s hz h2 rfl rfl)) (sl_w (fun z hz => (UR_s hz h2 rfl rfl)) (fun z hz => (UR_s hz h2 rfl rfl))))
theorem u_rfl_takeControl_130 (v1 : Int) (v3 : Int) (m : mR) : RP (rfl_takeControl_130 v1 v3 m) (sel (fun z : (mR) => UR rF_takeControl rA_takeControl m z) (sel (fun z : (mR) => UR rF_takeControl rA_takeControl m z) (fun z : mR => UR rF_takeControl rA_takeControl m z))) := by
  unfold rfl_takeControl_130
  refine RP_ite (fun h1 => ?_) (fun h1 => ?_)
  · skip
    exact RP_some (UR_m UR_0 rfl rfl (fun h => h))
  · skip
    exact RP_some UR_0
theorem u_rfl_takeControl_124 (v1 : Int) (v3 : Int) (m : mR) : RP (rfl_takeControl_124 v1 v3 m) (sel (fun z : (mR) => UR rF_takeControl rA_takeControl m z) (sel (fun z : (mR) => UR rF_takeControl rA_takeControl m z) (fun z : mR => UR rF_takeControl rA_takeControl m z))) := by
  unfold rfl_takeControl_124
  refine RP_bnd (u_rf_need 59 m) (fun y18 h1 => ?_)
  have h2 : UR rF_takeControl rA_takeControl m y18.2 := (UR_s h1 UR_0 rfl rfl)
  exact RP_w (u_rfl_takeControl_130 v1 v3 y18.2) (sl_w (fun z hz => (UR_s hz h2 rfl rfl)) (sl_w (fun z hz => (UR_s hz h2 rfl rfl)) (fun z hz => (UR_s hz h2 rfl rfl))))
theorem u_rfl_takeControl_100 (v1 : Int) (v2 : Int) (u0 : Int) (m : mR) : RP (rfl_takeControl_100 v1 v2 u0 m) (sel (fun z : (mR) => UR rF_takeControl rA_takeControl m z) (sel (fun z : (mR) => UR rF_takeControl rA_takeControl m z) (fun z : mR => UR rF_takeControl rA_takeControl m z))) := by
  unfold rfl_takeControl_100
  refine RP_ite (fun h1 => ?_) (fun h1 => ?_)
  · skip
    refine RP_ite (fun h2 => ?_) (fun h2 => ?_)
    · skip
      exact RP_w (u_rfl_takeControl_124 v1 u0 m) (sl_w (fun z hz => (UR_s hz UR_0 rfl rfl)) (sl_w (fun z hz => (UR_s hz UR_0 rfl rfl)) (fun z hz => (UR_s hz UR_0 rfl rfl))))
    · skip
      refine RP_bnd (u_rf_wrong 8 v2 m) (fun y23 h3 => ?_)
      have h4 : UR rF_takeControl rA_takeControl m y23.2 := (UR_s h3 UR_0 rfl rfl)
      exact RP_w (u_rfl_takeControl_124 v1 u0 y23.2) (sl_w (fun z hz => (UR_s hz h4 rfl rfl)) (sl_w (fun z hz => (UR_s hz h4 rfl rfl)) (fun z hz => (UR_s hz h4 rfl rfl))))
  · skip
    exact RP_w (u_rfl_takeControl_124 v1 u0 m) (sl_w (fun z hz => (UR_s hz UR_0 rfl rfl)) (sl_w (fun z hz => (UR_s hz UR_0 rfl rfl)) (fun z hz => (UR_s hz UR_0 rfl rfl))))
theorem u_rfl_takeControl_89 (v1 : Int) (m : mR) : RP (rfl_takeControl_89 v1 m) (sel (fun z : (mR) => UR rF_takeControl rA_takeControl m z) (sel (fun z : (mR) => UR rF_takeControl rA_takeControl m z) (fun z : mR => UR rF_takeControl rA_takeControl m z))) := by
  unfold rfl_takeControl_89
  refine RP_bnd (u_rf_oldName 7 m) (fun y26 h1 => ?_)
  have h2 : UR rF_takeControl rA_takeControl m y26.2 := (UR_s h1 UR_0 rfl rfl)
  exact RP_w (u_rfl_takeControl_100 v1 (m.1 8) y26.1 y26.2) (sl_w (fun z hz => (UR_s hz h2 rfl rfl)) (sl_w (fun z hz => (UR_s hz h2 rfl rfl)) (fun z hz => (UR_s hz h2 rfl rfl))))
theorem u_rfl_takeControl_84 (u0 : Int) (m : mR) : RP (rfl_takeControl_84 u0 m) (sel (fun z : (mR) => UR rF_takeControl rA_takeControl m z) (sel (fun z : (mR) => UR rF_takeControl rA_takeControl m z) (fun z : mR => UR rF_takeControl rA_takeControl m z))) := by
  unfold rfl_takeControl_84
  refine RP_bnd (u_rf_next m) (fun y29 h1 => ?_)
  have h2 : UR rF_takeControl rA_takeControl m y29.2 := (UR_s h1 UR_0 rfl rfl)
  exact RP_w (u_rfl_takeControl_89 u0 y29.2) (sl_w (fun z hz => (UR_s hz h2 rfl rfl)) (sl_w (fun z hz => (UR_s hz h2 rfl rfl)) (fun z hz => (UR_s hz h2 rfl rfl))))
theorem u_rfl_takeControl_66 (m : mR) : RP (rfl_takeControl_66 m) (sel (fun z : (mR) => UR rF_takeControl rA_takeControl m z) (sel (fun z : (mR) => UR rF_takeControl rA_takeControl m z) (fun z : mR => UR rF_takeControl rA_takeControl m z))) := by
  unfold rfl_takeControl_66
  exact RP_some UR_0
theorem u_rfl_takeControl_44 (u0 : Int) (m : mR) : RP (rfl_takeControl_44 u0 m) (sel (fun z : (mR) => UR rF_takeControl rA_takeControl m z) (sel (fun z : (mR) => UR rF_takeControl rA_takeControl m z) (fun z : mR => UR rF_takeControl rA_takeControl m z))) := by
  unfold rfl_takeControl_44
  refine RP_ite (fun h1 => ?_) (fun h1 => ?_)
  · skip
    refine RP_bnd (u_rf_takeStatement (mO m [] [(120, upI (m.2 120) u0 (m.1 99))])) (fun y33 h2 => ?_)
    have h3 : UR rF_takeControl rA_takeControl m y33.2 := (UR_s h2 (UR_m UR_0 rfl rfl (fun h => h)) rfl rfl)
    exact RP_w (u_rfl_takeControl_66 y33.2) (sl_w (fun z hz => (UR_s hz h3 rfl rfl)) (sl_w (fun z hz => (UR_s hz h3 rfl rfl)) (fun z hz => (UR_s hz h3 rfl rfl))))
  · skip
    exact RP_w (u_rfl_takeControl_66 (mO m [] [(120, upI (m.2 120) u0 (m.1 99))])) (sl_w (fun z hz => (UR_s hz (UR_m UR_0 rfl rfl (fun h => h)) rfl rfl)) (sl_w (fun z hz => (UR_s hz (UR_m UR_0 rfl rfl (fun h => h)) rfl rfl)) (fun z hz => (UR_s hz (UR_m UR_0 rfl rfl (fun h => h)) rfl rfl))))
theorem u_rfb_takeControl_18 (s : mR) : RP (rfb_takeControl_18 s) (sel (fun z : (mR) => UR rF_takeControl rA_takeControl s z) (sel (fun z : (mR) => UR rF_takeControl rA_takeControl s z) (fun z : mR => UR rF_takeControl rA_takeControl s z))) := by
  unfold rfb_takeControl_18
  refine RP_ite (fun h1 => ?_) (fun h1 => ?_)
  · skip
    refine RP_ite (fun h2 => ?_) (fun h2 => ?_)
    · skip
      exact RP_some UR_0
    · skip
      refine RP_bndT (fun y40 => ?_)
      refine RP_ite (fun h3 => ?_) (fun h3 => ?_)
      · skip
        refine RP_ite (fun h4 => ?_) (fun h4 => ?_)
        · skip
          refine RP_bnd (u_rf_newStep 2 s) (fun y51 h5 => ?_)
          have h6 : UR rF_takeControl rA_takeControl s y51.2 := (UR_s h5 UR_0 rfl rfl)
          exact RP_w (u_rfl_takeControl_84 y51.1 y51.2) (sl_w (fun z hz => (UR_s hz h6 rfl rfl)) (sl_w (fun z hz => (UR_s hz h6 rfl rfl)) (fun z hz => (UR_s hz h6 rfl rfl))))
        · skip
          refine RP_ite (fun h7 => ?_) (fun h7 => ?_)
          · skip
            refine RP_bnd (u_rf_newStep 1 s) (fun y48 h8 => ?_)
            have h9 : UR rF_takeControl rA_takeControl s y48.2 := (UR_s h8 UR_0 rfl rfl)
            exact RP_w (u_rfl_takeControl_170 y48.1 y48.2) (sl_w (fun z hz => (UR_s hz h9 rfl rfl)) (sl_w (fun z hz => (UR_s hz h9 rfl rfl)) (fun z hz => (UR_s hz h9 rfl rfl))))
          · skip
            refine RP_bnd (u_rf_closeBlock s) (fun y45 h10 => ?_)
            have h11 : UR rF_takeControl rA_takeControl s y45.2 := (UR_s h10 UR_0 rfl rfl)
            exact RP_some h11
      · skip
        refine RP_bnd (u_rf_newStep 0 s) (fun y54 h12 => ?_)
        have h13 : UR rF_takeControl rA_takeControl s y54.2 := (UR_s h12 UR_0 rfl rfl)
        exact RP_w (u_rfl_takeControl_44 y54.1 y54.2) (sl_w (fun z hz => (UR_s hz h13 rfl rfl)) (sl_w (fun z hz => (UR_s hz h13 rfl rfl)) (fun z hz => (UR_s hz h13 rfl rfl))))
  · skip
    exact RP_some UR_0
theorem uw_rfb_takeControl_18 (s : mR) : RP (whl rfb_takeControl_18 s) (sel (fun z : ((mR)) => UR rF_takeControl rA_takeControl s z) (fun z : mR => UR rF_takeControl rA_takeControl s z)) := RP_whl (I := fun q : mR => UR rF_takeControl rA_takeControl s q) (fun q hq => RP_w (u_rfb_takeControl_18 q) (sl_w (fun z hz => (UR_s hz hq rfl rfl)) (sl_w (fun z hz => (UR_s hz hq rfl rfl)) (fun z hz => (UR_s hz hq rfl rfl))))) UR_0
theorem u_rfl_takeControl_7 (m : mR) : RP (rfl_takeControl_7 m) (fun z : Int × mR => UR rF_takeControl rA_takeControl m z.2) := by
  unfold rfl_takeControl_7
  refine RP_bnd (u_rf_openBlock (-1) (-1) (mO m [(119, 0)] [])) (fun y57 h1 => ?_)
  have h2 : UR rF_takeControl rA_takeControl m y57.2 := (UR_s h1 (UR_m UR_0 rfl rfl (fun h => h)) rfl rfl)
  refine RP_bnd (uw_rfb_takeControl_18 y57.2) (RP_sl (fun e60 h3 => ?_) (fun e63 h5 => ?_))
  · skip
    have h4 : UR rF_takeControl rA_takeControl m e60 := (UR_s h3 h2 rfl rfl)
    exact RP_some h4
  · skip
    have h6 : UR rF_takeControl rA_takeControl m e63 := (UR_s h5 h2 rfl rfl)
    exact RP_some h6
theorem u_rf_takeControl (m : mR) : RP (rf_takeControl m) (fun z : Int × mR => UR rF_takeControl rA_takeControl m z.2) := by
  unfold rf_takeControl
  refine RP_bnd (u_rf_need 319 m) (fun y66 h1 => ?_)
  have h2 : UR rF_takeControl rA_takeControl m y66.2 := (UR_s h1 UR_0 rfl rfl)
  exact RP_w (u_rfl_takeControl_7 y66.2) (fun z hz => (UR_s hz h2 rfl rfl))
def rF_takeEmit : List Nat := [7, 8, 9, 10, 11, 12, 125]
def rA_takeEmit : List Nat := [123, 124]
theorem u_rfl_takeEmit_148 (m : mR) : RP (rfl_takeEmit_148 m) (fun z : Int × mR => UR rF_takeEmit rA_takeEmit m z.2) := by
  unfold rfl_takeEmit_148
  refine RP_bnd (u_rf_need 59 m) (fun y4 h1 => ?_)
  have h2 : UR rF_takeEmit rA_takeEmit m y4.2 := (UR_s h1 UR_0 rfl rfl)
  exact RP_some h2
theorem u_rfl_takeEmit_145 (v1 : Int) (m : mR) : RP (rfl_takeEmit_145 v1 m) (sel (fun z : (Int × mR) => UR rF_takeEmit rA_takeEmit m z.2) (sel (fun z : (mR) => UR rF_takeEmit rA_takeEmit m z) (fun z : mR => UR rF_takeEmit rA_takeEmit m z))) := by
  unfold rfl_takeEmit_145
  exact RP_some UR_0
theorem u_rfl_takeEmit_136 (u0 : Int) (m : mR) : RP (rfl_takeEmit_136 u0 m) (sel (fun z : (Int × mR) => UR rF_takeEmit rA_takeEmit m z.2) (sel (fun z : (mR) => UR rF_takeEmit rA_takeEmit m z) (fun z : mR => UR rF_takeEmit rA_takeEmit m z))) := by
  unfold rfl_takeEmit_136
  refine RP_ite (fun h1 => ?_) (fun h1 => ?_)
  · skip
    exact RP_w (u_rfl_takeEmit_145 u0 m) (sl_w (fun z hz => (UR_s hz UR_0 rfl rfl)) (sl_w (fun z hz => (UR_s hz UR_0 rfl rfl)) (fun z hz => (UR_s hz UR_0 rfl rfl))))
  · skip
    refine RP_bnd (u_rf_next m) (fun y8 h2 => ?_)
    have h3 : UR rF_takeEmit rA_takeEmit m y8.2 := (UR_s h2 UR_0 rfl rfl)
    exact RP_w (u_rfl_takeEmit_145 u0 y8.2) (sl_w (fun z hz => (UR_s hz h3 rfl rfl)) (sl_w (fun z hz => (UR_s hz h3 rfl rfl)) (fun z hz => (UR_s hz h3 rfl rfl))))
theorem u_rfl_takeEmit_135 (m : mR) : RP (rfl_takeEmit_135 m) (sel (fun z : (Int × mR) => UR rF_takeEmit rA_takeEmit m z.2) (sel (fun z : (mR) => UR rF_takeEmit rA_takeEmit m z) (fun z : mR => UR rF_takeEmit rA_takeEmit m z))) := by
  unfold rfl_takeEmit_135
  exact RP_w (u_rfl_takeEmit_136 0 m) (sl_w (fun z hz => (UR_s hz UR_0 rfl rfl)) (sl_w (fun z hz => (UR_s hz UR_0 rfl rfl)) (fun z hz => (UR_s hz UR_0 rfl rfl))))
theorem u_rfl_takeEmit_80 (v3 : Int) (m : mR) : RP (rfl_takeEmit_80 v3 m) (sel (fun z : (Int × mR) => UR rF_takeEmit rA_takeEmit m z.2) (sel (fun z : (mR) => UR rF_takeEmit rA_takeEmit m z) (fun z : mR => UR rF_takeEmit rA_takeEmit m z))) := by
  unfold rfl_takeEmit_80
  refine RP_ite (fun h1 => ?_) (fun h1 => ?_)
  · skip
    refine RP_ite (fun h2 => ?_) (fun h2 => ?_)
    · skip
      refine RP_ite (fun h3 => ?_) (fun h3 => ?_)
      · skip
        exact RP_w (u_rfl_takeEmit_136 1 (mO m [(125, cut ((m.1 125) + 1))] [(123, upI (m.2 123) v3 (nar1 1)), (124, upI (m.2 124) (m.1 125) v3)])) (sl_w (fun z hz => (UR_s hz (UR_m UR_0 rfl rfl (fun h => h)) rfl rfl)) (sl_w (fun z hz => (UR_s hz (UR_m UR_0 rfl rfl (fun h => h)) rfl rfl)) (fun z hz => (UR_s hz (UR_m UR_0 rfl rfl (fun h => h)) rfl rfl))))
      · skip
        exact RP_w (u_rfl_takeEmit_135 (mO m [(125, cut ((m.1 125) + 1))] [(123, upI (m.2 123) v3 (nar1 1)), (124, upI (m.2 124) (m.1 125) v3)])) (sl_w (fun z hz => (UR_s hz (UR_m UR_0 rfl rfl (fun h => h)) rfl rfl)) (sl_w (fun z hz => (UR_s hz (UR_m UR_0 rfl rfl (fun h => h)) rfl rfl)) (fun z hz => (UR_s hz (UR_m UR_0 rfl rfl (fun h => h)) rfl rfl))))
    · skip
      exact RP_w (u_rfl_takeEmit_135 (mO m [(125, cut ((m.1 125) + 1))] [(123, upI (m.2 123) v3 (nar1 1)), (124, upI (m.2 124) (m.1 125) v3)])) (sl_w (fun z hz => (UR_s hz (UR_m UR_0 rfl rfl (fun h => h)) rfl rfl)) (sl_w (fun z hz => (UR_s hz (UR_m UR_0 rfl rfl (fun h => h)) rfl rfl)) (fun z hz => (UR_s hz (UR_m UR_0 rfl rfl (fun h => h)) rfl rfl))))
  · skip
    exact RP_some UR_0
theorem u_rfl_takeEmit_56 (v2 : Int) (u0 : Int) (m : mR) : RP (rfl_takeEmit_56 v2 u0 m) (sel (fun z : (Int × mR) => UR rF_takeEmit rA_takeEmit m z.2) (sel (fun z : (mR) => UR rF_takeEmit rA_takeEmit m z) (fun z : mR => UR rF_takeEmit rA_takeEmit m z))) := by
  unfold rfl_takeEmit_56
  refine RP_ite (fun h1 => ?_) (fun h1 => ?_)
  · skip
    refine RP_ite (fun h2 => ?_) (fun h2 => ?_)
    · skip
      exact RP_w (u_rfl_takeEmit_80 u0 m) (sl_w (fun z hz => (UR_s hz UR_0 rfl rfl)) (sl_w (fun z hz => (UR_s hz UR_0 rfl rfl)) (fun z hz => (UR_s hz UR_0 rfl rfl))))
    · skip
      refine RP_bnd (u_rf_wrong 8 v2 m) (fun y16 h3 => ?_)
      have h4 : UR rF_takeEmit rA_takeEmit m y16.2 := (UR_s h3 UR_0 rfl rfl)
      exact RP_w (u_rfl_takeEmit_80 u0 y16.2) (sl_w (fun z hz => (UR_s hz h4 rfl rfl)) (sl_w (fun z hz => (UR_s hz h4 rfl rfl)) (fun z hz => (UR_s hz h4 rfl rfl))))
  · skip
    exact RP_w (u_rfl_takeEmit_80 u0 m) (sl_w (fun z hz => (UR_s hz UR_0 rfl rfl)) (sl_w (fun z hz => (UR_s hz UR_0 rfl rfl)) (fun z hz => (UR_s hz UR_0 rfl rfl))))
theorem u_rfb_takeEmit_35 (s : Int × mR) : RP (rfb_takeEmit_35 s) (sel (fun z : (Int × mR) => UR rF_takeEmit rA_takeEmit s.2 z.2) (sel (fun z : (mR) => UR rF_takeEmit rA_takeEmit s.2 z) (fun z : mR => UR rF_takeEmit rA_takeEmit s.2 z))) := by
  unfold rfb_takeEmit_35
  refine RP_ite (fun h1 => ?_) (fun h1 => ?_)
  · skip
    exact RP_some UR_0
  · skip
    refine RP_ite (fun h2 => ?_) (fun h2 => ?_)
    · skip
      refine RP_bnd (u_rf_oldName 2 s.2) (fun y23 h3 => ?_)
      have h4 : UR rF_takeEmit rA_takeEmit s.2 y23.2 := (UR_s h3 UR_0 rfl rfl)
      exact RP_w (u_rfl_takeEmit_56 (s.2.1 8) y23.1 y23.2) (sl_w (fun z hz => (UR_s hz h4 rfl rfl)) (sl_w (fun z hz => (UR_s hz h4 rfl rfl)) (fun z hz => (UR_s hz h4 rfl rfl))))
    · skip
      exact RP_some UR_0
theorem uw_rfb_takeEmit_35 (s : Int × mR) : RP (whl rfb_takeEmit_35 s) (sel (fun z : ((mR)) => UR rF_takeEmit rA_takeEmit s.2 z) (fun z : mR => UR rF_takeEmit rA_takeEmit s.2 z)) := RP_whl (I := fun q : Int × mR => UR rF_takeEmit rA_takeEmit s.2 q.2) (fun q hq => RP_w (u_rfb_takeEmit_35 q) (sl_w (fun z hz => (UR_s hz hq rfl rfl)) (sl_w (fun z hz => (UR_s hz hq rfl rfl)) (fun z hz => (UR_s hz hq rfl rfl))))) UR_0
theorem u_rfl_takeEmit_28 (m : mR) : RP (rfl_takeEmit_28 m) (fun z : Int × mR => UR rF_takeEmit rA_takeEmit m z.2) := by
  unfold rfl_takeEmit_28
  refine RP_bnd (uw_rfb_takeEmit_35 (1, (mO m [(125, 0)] []))) (RP_sl (fun e26 h1 => ?_) (fun e29 h3 => ?_))
  · skip
    have h2 : UR rF_takeEmit rA_takeEmit m e26 := (UR_s h1 (UR_m UR_0 rfl rfl (fun h => h)) rfl rfl)
    exact RP_some h2
  · skip
    have h4 : UR rF_takeEmit rA_takeEmit m e29 := (UR_s h3 (UR_m UR_0 rfl rfl (fun h => h)) rfl rfl)
    exact RP_w (u_rfl_takeEmit_148 e29) (fun z hz => (UR_s hz h4 rfl rfl))
theorem u_rfb_takeEmit_9 (s : Int × mR) : RP (rfb_takeEmit_9 s) (sel (fun z : (Int × mR) => UR rF_takeEmit rA_takeEmit s.2 z.2) (fun z : mR => UR rF_takeEmit rA_takeEmit s.2 z)) := by
  unfold rfb_takeEmit_9
  refine RP_ite (fun h1 => ?_) (fun h1 => ?_)
  · skip
    exact RP_some UR_0
  · skip
    exact RP_some (UR_m UR_0 rfl rfl (fun h => h))
theorem uw_rfb_takeEmit_9 (s : Int × mR) : RP (whl rfb_takeEmit_9 s) (fun z : mR => UR rF_takeEmit rA_takeEmit s.2 z) := RP_whl (I := fun q : Int × mR => UR rF_takeEmit rA_takeEmit s.2 q.2) (fun q hq => RP_w (u_rfb_takeEmit_9 q) (sl_w (fun z hz => (UR_s hz hq rfl rfl)) (fun z hz => (UR_s hz hq rfl rfl)))) UR_0
theorem u_rfl_takeEmit_7 (m : mR) : RP (rfl_takeEmit_7 m) (fun z : Int × mR => UR rF_takeEmit rA_takeEmit m z.2) := by
  unfold rfl_takeEmit_7
  refine RP_bnd (uw_rfb_takeEmit_9 (0, m)) (fun e34 h1 => ?_)
  have h2 : UR rF_takeEmit rA_takeEmit m e34 := (UR_s h1 UR_0 rfl rfl)
  exact RP_w (u_rfl_takeEmit_28 e34) (fun z hz => (UR_s hz h2 rfl rfl))
theorem u_rf_takeEmit (m : mR) : RP (rf_takeEmit m) (fun z : Int × mR => UR rF_takeEmit rA_takeEmit m z.2) := by
  unfold rf_takeEmit
  refine RP_bnd (u_rf_need 323 m) (fun y37 h1 => ?_)
  have h2 : UR rF_takeEmit rA_takeEmit m y37.2 := (UR_s h1 UR_0 rfl rfl)
  exact RP_w (u_rfl_takeEmit_7 y37.2) (fun z hz => (UR_s hz h2 rfl rfl))
def rF_comesRound : List Nat := []
def rA_comesRound : List Nat := [126]
theorem u_rfl_comesRound_138 (v1 : Int) (m : mR) : RP (rfl_comesRound_138 v1 m) (fun z : Int × mR => UR rF_comesRound rA_comesRound m z.2) := by
  unfold rfl_comesRound_138
  exact RP_some UR_0
theorem u_rfl_comesRound_135 (v1 : Int) (v2 : Int) (m : mR) : RP (rfl_comesRound_135 v1 v2 m) (sel (fun z : (Int × mR) => UR rF_comesRound rA_comesRound m z.2) (fun z : mR => UR rF_comesRound rA_comesRound m z)) := by
  unfold rfl_comesRound_135
  exact RP_some UR_0
theorem u_rfl_comesRound_129 (v1 : Int) (v2 : Int) (v3 : Int) (m : mR) : RP (rfl_comesRound_129 v1 v2 v3 m) (sel (fun z : (Int × Int × mR) => UR rF_comesRound rA_comesRound m z.2.2) (fun z : Int × mR => UR rF_comesRound rA_comesRound m z.2)) := by
  unfold rfl_comesRound_129
  exact RP_some UR_0
theorem u_rfl_comesRound_123 (v1 : Int) (v2 : Int) (v3 : Int) (v4 : Int) (m : mR) : RP (rfl_comesRound_123 v1 v2 v3 v4 m) (sel (fun z : (Int × Int × mR) => UR rF_comesRound rA_comesRound m z.2.2) (fun z : Int × mR => UR rF_comesRound rA_comesRound m z.2)) := by
  unfold rfl_comesRound_123
  exact RP_some UR_0
theorem u_rfb_comesRound_81 (v1 : Int) (v3 : Int) (s : Int × Int × mR) : RP (rfb_comesRound_81 v1 v3 s) (sel (fun z : (Int × Int × mR) => UR rF_comesRound rA_comesRound s.2.2 z.2.2) (fun z : Int × mR => UR rF_comesRound rA_comesRound s.2.2 z.2)) := by
  unfold rfb_comesRound_81
  refine RP_ite (fun h1 => ?_) (fun h1 => ?_)
  · skip
    exact RP_some UR_0
  · skip
    refine RP_ite (fun h2 => ?_) (fun h2 => ?_)
    · skip
      refine RP_bndT (fun y11 => ?_)
      refine RP_ite (fun h3 => ?_) (fun h3 => ?_)
      · skip
        exact RP_w (u_rfl_comesRound_123 v1 s.1 v3 s.2.1 s.2.2) (sl_w (fun z hz => (UR_s hz UR_0 rfl rfl)) (fun z hz => (UR_s hz UR_0 rfl rfl)))
      · skip
        exact RP_w (u_rfl_comesRound_123 v1 1 v3 s.2.1 (mO s.2.2 [] [(126, upI (s.2.2.2 126) s.2.1 (nar1 1))])) (sl_w (fun z hz => (UR_s hz (UR_m UR_0 rfl rfl (fun h => h)) rfl rfl)) (fun z hz => (UR_s hz (UR_m UR_0 rfl rfl (fun h => h)) rfl rfl)))
    · skip
      exact RP_w (u_rfl_comesRound_123 v1 s.1 v3 s.2.1 s.2.2) (sl_w (fun z hz => (UR_s hz UR_0 rfl rfl)) (fun z hz => (UR_s hz UR_0 rfl rfl)))
theorem uw_rfb_comesRound_81 (v1 : Int) (v3 : Int) (s : Int × Int × mR) : RP (whl (rfb_comesRound_81 v1 v3) s) (fun z : Int × mR => UR rF_comesRound rA_comesRound s.2.2 z.2) := RP_whl (I := fun q : Int × Int × mR => UR rF_comesRound rA_comesRound s.2.2 q.2.2) (fun q hq => RP_w (u_rfb_comesRound_81 v1 v3 q) (sl_w (fun z hz => (UR_s hz hq rfl rfl)) (fun z hz => (UR_s hz hq rfl rfl)))) UR_0
theorem u_rfb_comesRound_49 (v1 : Int) (s : Int × Int × mR) : RP (rfb_comesRound_49 v1 s) (sel (fun z : (Int × Int × mR) => UR rF_comesRound rA_comesRound s.2.2 z.2.2) (fun z : Int × mR => UR rF_comesRound rA_comesRound s.2.2 z.2)) := by
  unfold rfb_comesRound_49
  refine RP_ite (fun h1 => ?_) (fun h1 => ?_)
  · skip
    exact RP_some UR_0
  · skip
    refine RP_ite (fun h2 => ?_) (fun h2 => ?_)
    · skip
      exact RP_w (u_rfl_comesRound_129 v1 s.1 s.2.1 s.2.2) (sl_w (fun z hz => (UR_s hz UR_0 rfl rfl)) (fun z hz => (UR_s hz UR_0 rfl rfl)))
    · skip
      refine RP_ite (fun h3 => ?_) (fun h3 => ?_)
      · skip
        refine RP_bnd (uw_rfb_comesRound_81 v1 s.2.1 (s.1, 0, s.2.2)) (fun e19 h4 => ?_)
        have h5 : UR rF_comesRound rA_comesRound s.2.2 e19.2 := (UR_s h4 UR_0 rfl rfl)
        exact RP_w (u_rfl_comesRound_129 v1 e19.1 s.2.1 e19.2) (sl_w (fun z hz => (UR_s hz h5 rfl rfl)) (fun z hz => (UR_s hz h5 rfl rfl)))
      · skip
        exact RP_w (u_rfl_comesRound_129 v1 s.1 s.2.1 s.2.2) (sl_w (fun z hz => (UR_s hz UR_0 rfl rfl)) (fun z hz => (UR_s hz UR_0 rfl rfl)))
theorem uw_rfb_comesRound_49 (v1 : Int) (s : Int × Int × mR) : RP (whl (rfb_comesRound_49 v1) s) (fun z : Int × mR => UR rF_comesRound rA_comesRound s.2.2 z.2) := RP_whl (I := fun q : Int × Int × mR => UR rF_comesRound rA_comesRound s.2.2 q.2.2) (fun q hq => RP_w (u_rfb_comesRound_49 v1 q) (sl_w (fun z hz => (UR_s hz hq rfl rfl)) (fun z hz => (UR_s hz hq rfl rfl)))) UR_0
theorem u_rfb_comesRound_41 (v1 : Int) (s : Int × mR) : RP (rfb_comesRound_41 v1 s) (sel (fun z : (Int × mR) => UR rF_comesRound rA_comesRound s.2 z.2) (fun z : mR => UR rF_comesRound rA_comesRound s.2 z)) := by
  unfold rfb_comesRound_41
  refine RP_ite (fun h1 => ?_) (fun h1 => ?_)
  · skip
    exact RP_some UR_0
  · skip
    refine RP_bnd (uw_rfb_comesRound_49 v1 (0, 0, s.2)) (fun e25 h2 => ?_)
    have h3 : UR rF_comesRound rA_comesRound s.2 e25.2 := (UR_s h2 UR_0 rfl rfl)
    exact RP_w (u_rfl_comesRound_135 v1 e25.1 e25.2) (sl_w (fun z hz => (UR_s hz h3 rfl rfl)) (fun z hz => (UR_s hz h3 rfl rfl)))
theorem uw_rfb_comesRound_41 (v1 : Int) (s : Int × mR) : RP (whl (rfb_comesRound_41 v1) s) (fun z : mR => UR rF_comesRound rA_comesRound s.2 z) := RP_whl (I := fun q : Int × mR => UR rF_comesRound rA_comesRound s.2 q.2) (fun q hq => RP_w (u_rfb_comesRound_41 v1 q) (sl_w (fun z hz => (UR_s hz hq rfl rfl)) (fun z hz => (UR_s hz hq rfl rfl)))) UR_0
theorem u_rfl_comesRound_39 (v1 : Int) (m : mR) : RP (rfl_comesRound_39 v1 m) (fun z : Int × mR => UR rF_comesRound rA_comesRound m z.2) := by
  unfold rfl_comesRound_39
  refine RP_bnd (uw_rfb_comesRound_41 v1 (1, m)) (fun e29 h1 => ?_)
  have h2 : UR rF_comesRound rA_comesRound m e29 := (UR_s h1 UR_0 rfl rfl)
  exact RP_w (u_rfl_comesRound_138 v1 e29) (fun z hz => (UR_s hz h2 rfl rfl))
theorem u_rfb_comesRound_13 (v1 : Int) (s : Int × mR) : RP (rfb_comesRound_13 v1 s) (sel (fun z : (Int × mR) => UR rF_comesRound rA_comesRound s.2 z.2) (fun z : mR => UR rF_comesRound rA_comesRound s.2 z)) := by
  unfold rfb_comesRound_13
  refine RP_ite (fun h1 => ?_) (fun h1 => ?_)
  · skip
    exact RP_some UR_0
  · skip
    refine RP_bndT (fun y34 => ?_)
    exact RP_some (UR_m UR_0 rfl rfl (fun h => h))
theorem uw_rfb_comesRound_13 (v1 : Int) (s : Int × mR) : RP (whl (rfb_comesRound_13 v1) s) (fun z : mR => UR rF_comesRound rA_comesRound s.2 z) := RP_whl (I := fun q : Int × mR => UR rF_comesRound rA_comesRound s.2 q.2) (fun q hq => RP_w (u_rfb_comesRound_13 v1 q) (sl_w (fun z hz => (UR_s hz hq rfl rfl)) (fun z hz => (UR_s hz hq rfl rfl)))) UR_0
theorem u_rf_comesRound (v1 : Int) (m : mR) : RP (rf_comesRound v1 m) (fun z : Int × mR => UR rF_comesRound rA_comesRound m z.2) := by
  unfold rf_comesRound
  refine RP_ite (fun h1 => ?_) (fun h1 => ?_)
  · skip
    refine RP_bnd (uw_rfb_comesRound_13 v1 (0, m)) (fun e37 h2 => ?_)
    have h3 : UR rF_comesRound rA_comesRound m e37 := (UR_s h2 UR_0 rfl rfl)
    exact RP_w (u_rfl_comesRound_39 v1 e37) (fun z hz => (UR_s hz h3 rfl rfl))
  · skip
    exact RP_some UR_0
def rF_checkStates : List Nat := [10, 11]
def rA_checkStates : List Nat := [126]
theorem u_rfl_checkStates_96 (v2 : Int) (m : mR) : RP (rfl_checkStates_96 v2 m) (sel (fun z : (Int × mR) => UR rF_checkStates rA_checkStates m z.2) (fun z : mR => UR rF_checkStates rA_checkStates m z)) := by
  unfold rfl_checkStates_96
  exact RP_some UR_0
theorem u_rfl_checkStates_81 (v2 : Int) (u0 : Int) (m : mR) : RP (rfl_checkStates_81 v2 u0 m) (sel (fun z : (Int × mR) => UR rF_checkStates rA_checkStates m z.2) (fun z : mR => UR rF_checkStates rA_checkStates m z)) := by
  unfold rfl_checkStates_81
  refine RP_ite (fun h1 => ?_) (fun h1 => ?_)
  · skip
    exact RP_w (u_rfl_checkStates_96 v2 m) (sl_w (fun z hz => (UR_s hz UR_0 rfl rfl)) (fun z hz => (UR_s hz UR_0 rfl rfl)))
  · skip
    refine RP_bnd (u_rf_wrong 8 ((m.2 40) v2) m) (fun y4 h2 => ?_)
    have h3 : UR rF_checkStates rA_checkStates m y4.2 := (UR_s h2 UR_0 rfl rfl)
    exact RP_w (u_rfl_checkStates_96 v2 y4.2) (sl_w (fun z hz => (UR_s hz h3 rfl rfl)) (fun z hz => (UR_s hz h3 rfl rfl)))
theorem u_rfb_checkStates_61 (s : Int × mR) : RP (rfb_checkStates_61 s) (sel (fun z : (Int × mR) => UR rF_checkStates rA_checkStates s.2 z.2) (fun z : mR => UR rF_checkStates rA_checkStates s.2 z)) := by
  unfold rfb_checkStates_61
  refine RP_ite (fun h1 => ?_) (fun h1 => ?_)
  · skip
    exact RP_some UR_0
  · skip
    refine RP_ite (fun h2 => ?_) (fun h2 => ?_)
    · skip
      refine RP_bnd (u_rf_comesRound s.1 s.2) (fun y10 h3 => ?_)
      have h4 : UR rF_checkStates rA_checkStates s.2 y10.2 := (UR_s h3 UR_0 rfl rfl)
      exact RP_w (u_rfl_checkStates_81 s.1 y10.1 y10.2) (sl_w (fun z hz => (UR_s hz h4 rfl rfl)) (fun z hz => (UR_s hz h4 rfl rfl)))
    · skip
      exact RP_some UR_0
theorem uw_rfb_checkStates_61 (s : Int × mR) : RP (whl rfb_checkStates_61 s) (fun z : mR => UR rF_checkStates rA_checkStates s.2 z) := RP_whl (I := fun q : Int × mR => UR rF_checkStates rA_checkStates s.2 q.2) (fun q hq => RP_w (u_rfb_checkStates_61 q) (sl_w (fun z hz => (UR_s hz hq rfl rfl)) (fun z hz => (UR_s hz hq rfl rfl)))) UR_0
theorem u_rfl_checkStates_59 (m : mR) : RP (rfl_checkStates_59 m) (fun z : Int × mR => UR rF_checkStates rA_checkStates m z.2) := by
  unfold rfl_checkStates_59
  refine RP_bnd (uw_rfb_checkStates_61 (0, m)) (fun e13 h1 => ?_)
  have h2 : UR rF_checkStates rA_checkStates m e13 := (UR_s h1 UR_0 rfl rfl)
  exact RP_some h2
theorem u_rfl_checkStates_48 (v1 : Int) (m : mR) : RP (rfl_checkStates_48 v1 m) (fun z : Int × mR => UR rF_checkStates rA_checkStates m z.2) := by
  unfold rfl_checkStates_48
  refine RP_ite (fun h1 => ?_) (fun h1 => ?_)
  · skip
    exact RP_w (u_rfl_checkStates_59 m) (fun z hz => (UR_s hz UR_0 rfl rfl))
  · skip
    refine RP_bnd (u_rf_wrong 6 v1 m) (fun y17 h2 => ?_)
    have h3 : UR rF_checkStates rA_checkStates m y17.2 := (UR_s h2 UR_0 rfl rfl)
    exact RP_w (u_rfl_checkStates_59 y17.2) (fun z hz => (UR_s hz h3 rfl rfl))
theorem u_rf_checkStates (m : mR) : RP (rf_checkStates m) (fun z : Int × mR => UR rF_checkStates rA_checkStates m z.2) := by
  unfold rf_checkStates
  refine RP_bndT (fun e25 => ?_)
  exact RP_w (u_rfl_checkStates_48 e25 m) (fun z hz => (UR_s hz UR_0 rfl rfl))
def rF_readsCode : List Nat := []
def rA_readsCode : List Nat := [135]
theorem u_rfl_readsCode_129 (v1 : Int) (v3 : Int) (v4 : Int) (m : mR) : RP (rfl_readsCode_129 v1 v3 v4 m) (sel (fun z : (Int × mR) => UR rF_readsCode rA_readsCode m z.2) (fun z : mR => UR rF_readsCode rA_readsCode m z)) := by
  unfold rfl_readsCode_129
  exact RP_some UR_0
theorem u_rfb_readsCode_3 (v1 : Int) (v3 : Int) (s : Int × mR) : RP (rfb_readsCode_3 v1 v3 s) (sel (fun z : (Int × mR) => UR rF_readsCode rA_readsCode s.2 z.2) (fun z : mR => UR rF_readsCode rA_readsCode s.2 z)) := by
  unfold rfb_readsCode_3
  refine RP_ite (fun h1 => ?_) (fun h1 => ?_)
  · skip
    exact RP_some UR_0
  · skip
    refine RP_ite (fun h2 => ?_) (fun h2 => ?_)
    · skip
      exact RP_w (u_rfl_readsCode_129 v1 v3 s.1 (mO s.2 [] [(135, upI (upI (s.2.2 135) (cut ((cut (221 * v1)) + ((s.2.2 67) s.1))) (nar1 1)) (cut ((cut ((cut (221 * v1)) + 192)) + (((s.2.2 67) s.1).tdiv 16))) (nar1 1))])) (sl_w (fun z hz => (UR_s hz (UR_m UR_0 rfl rfl (fun h => h)) rfl rfl)) (fun z hz => (UR_s hz (UR_m UR_0 rfl rfl (fun h => h)) rfl rfl)))
    · skip
      refine RP_ite (fun h3 => ?_) (fun h3 => ?_)
      · skip
        exact RP_w (u_rfl_readsCode_129 v1 v3 s.1 (mO s.2 [] [(135, upI (s.2.2 135) (cut ((cut ((cut (221 * v1)) + 192)) + ((s.2.2 67) s.1))) (nar1 1))])) (sl_w (fun z hz => (UR_s hz (UR_m UR_0 rfl rfl (fun h => h)) rfl rfl)) (fun z hz => (UR_s hz (UR_m UR_0 rfl rfl (fun h => h)) rfl rfl)))
      · skip
        refine RP_ite (fun h4 => ?_) (fun h4 => ?_)
        · skip
          exact RP_w (u_rfl_readsCode_129 v1 v3 s.1 (mO s.2 [] [(135, upI (s.2.2 135) (cut ((cut ((cut (221 * v1)) + 204)) + ((s.2.2 67) s.1))) (nar1 1))])) (sl_w (fun z hz => (UR_s hz (UR_m UR_0 rfl rfl (fun h => h)) rfl rfl)) (fun z hz => (UR_s hz (UR_m UR_0 rfl rfl (fun h => h)) rfl rfl)))
        · skip
          exact RP_w (u_rfl_readsCode_129 v1 v3 s.1 s.2) (sl_w (fun z hz => (UR_s hz UR_0 rfl rfl)) (fun z hz => (UR_s hz UR_0 rfl rfl)))
theorem uw_rfb_readsCode_3 (v1 : Int) (v3 : Int) (s : Int × mR) : RP (whl (rfb_readsCode_3 v1 v3) s) (fun z : mR => UR rF_readsCode rA_readsCode s.2 z) := RP_whl (I := fun q : Int × mR => UR rF_readsCode rA_readsCode s.2 q.2) (fun q hq => RP_w (u_rfb_readsCode_3 v1 v3 q) (sl_w (fun z hz => (UR_s hz hq rfl rfl)) (fun z hz => (UR_s hz hq rfl rfl)))) UR_0
theorem u_rf_readsCode (v1 : Int) (v2 : Int) (v3 : Int) (m : mR) : RP (rf_readsCode v1 v2 v3 m) (fun z : Int × mR => UR rF_readsCode rA_readsCode m z.2) := by
  unfold rf_readsCode
  refine RP_bnd (uw_rfb_readsCode_3 v1 v3 (v2, m)) (fun e7 h1 => ?_)
  have h2 : UR rF_readsCode rA_readsCode m e7 := (UR_s h1 UR_0 rfl rfl)
  exact RP_some h2
def rF_writesPlace : List Nat := []
def rA_writesPlace : List Nat := [135, 136]
theorem u_rf_writesPlace (v1 : Int) (v2 : Int) (m : mR) : RP (rf_writesPlace v1 v2 m) (fun z : Int × mR => UR rF_writesPlace rA_writesPlace m z.2) := by
  unfold rf_writesPlace
  refine RP_ite (fun h1 => ?_) (fun h1 => ?_)
  · skip
    exact RP_some (UR_m UR_0 rfl rfl (fun h => h))
  · skip
    exact RP_some (UR_m UR_0 rfl rfl (fun h => h))
def rF_touches : List Nat := []
def rA_touches : List Nat := [135, 136, 137]
theorem u_rfb_touches_209 (v3 : Int) (v4 : Int) (s : Int × mR) : RP (rfb_touches_209 v3 v4 s) (sel (fun z : (Int × mR) => UR rF_touches rA_touches s.2 z.2) (fun z : mR => UR rF_touches rA_touches s.2 z)) := by
  unfold rfb_touches_209
  refine RP_ite (fun h1 => ?_) (fun h1 => ?_)
  · skip
    exact RP_some UR_0
  · skip
    exact RP_some (UR_m UR_0 rfl rfl (fun h => h))
theorem uw_rfb_touches_209 (v3 : Int) (v4 : Int) (s : Int × mR) : RP (whl (rfb_touches_209 v3 v4) s) (fun z : mR => UR rF_touches rA_touches s.2 z) := RP_whl (I := fun q : Int × mR => UR rF_touches rA_touches s.2 q.2) (fun q hq => RP_w (u_rfb_touches_209 v3 v4 q) (sl_w (fun z hz => (UR_s hz hq rfl rfl)) (fun z hz => (UR_s hz hq rfl rfl)))) UR_0
theorem u_rfl_touches_184 (v2 : Int) (v3 : Int) (m : mR) : RP (rfl_touches_184 v2 v3 m) (fun z : Int × mR => UR rF_touches rA_touches m z.2) := by
  unfold rfl_touches_184
  refine RP_bnd (uw_rfb_touches_209 v3 ((m.2 104) v2) (0, (mO m [] [(136, upI (m.2 136) (cut ((cut (v3 + 192)) + ((m.2 104) v2))) (nar1 1))]))) (fun e4 h1 => ?_)
  have h2 : UR rF_touches rA_touches m e4 := (UR_s h1 (UR_m UR_0 rfl rfl (fun h => h)) rfl rfl)
  exact RP_some h2
theorem u_rfl_touches_159 (v2 : Int) (v3 : Int) (m : mR) : RP (rfl_touches_159 v2 v3 m) (fun z : Int × mR => UR rF_touches rA_touches m z.2) := by
  unfold rfl_touches_159
  refine RP_ite (fun h1 => ?_) (fun h1 => ?_)
  · skip
    exact RP_w (u_rfl_touches_184 v2 v3 m) (fun z hz => (UR_s hz UR_0 rfl rfl))
  · skip
    refine RP_ite (fun h2 => ?_) (fun h2 => ?_)
    · skip
      exact RP_w (u_rfl_touches_184 v2 v3 m) (fun z hz => (UR_s hz UR_0 rfl rfl))
    · skip
      exact RP_some UR_0
theorem u_rfl_touches_136 (v2 : Int) (v3 : Int) (m : mR) : RP (rfl_touches_136 v2 v3 m) (fun z : Int × mR => UR rF_touches rA_touches m z.2) := by
  unfold rfl_touches_136
  refine RP_ite (fun h1 => ?_) (fun h1 => ?_)
  · skip
    exact RP_w (u_rfl_touches_159 v2 v3 (mO m [] [(136, upI (m.2 136) (cut (v3 + 220)) (nar1 1))])) (fun z hz => (UR_s hz (UR_m UR_0 rfl rfl (fun h => h)) rfl rfl))
  · skip
    exact RP_w (u_rfl_touches_159 v2 v3 m) (fun z hz => (UR_s hz UR_0 rfl rfl))
theorem u_rfl_touches_125 (v1 : Int) (v2 : Int) (v3 : Int) (m : mR) : RP (rfl_touches_125 v1 v2 v3 m) (fun z : Int × mR => UR rF_touches rA_touches m z.2) := by
  unfold rfl_touches_125
  refine RP_bnd (u_rf_writesPlace v1 ((m.2 102) v2) m) (fun y10 h1 => ?_)
  have h2 : UR rF_touches rA_touches m y10.2 := (UR_s h1 UR_0 rfl rfl)
  exact RP_w (u_rfl_touches_136 v2 v3 y10.2) (fun z hz => (UR_s hz h2 rfl rfl))
theorem u_rfl_touches_103 (v1 : Int) (v2 : Int) (v3 : Int) (m : mR) : RP (rfl_touches_103 v1 v2 v3 m) (fun z : Int × mR => UR rF_touches rA_touches m z.2) := by
  unfold rfl_touches_103
  refine RP_ite (fun h1 => ?_) (fun h1 => ?_)
  · skip
    exact RP_w (u_rfl_touches_125 v1 v2 v3 m) (fun z hz => (UR_s hz UR_0 rfl rfl))
  · skip
    refine RP_ite (fun h2 => ?_) (fun h2 => ?_)
    · skip
      exact RP_w (u_rfl_touches_125 v1 v2 v3 m) (fun z hz => (UR_s hz UR_0 rfl rfl))
    · skip
      exact RP_w (u_rfl_touches_136 v2 v3 m) (fun z hz => (UR_s hz UR_0 rfl rfl))
theorem u_rfl_touches_86 (v1 : Int) (v2 : Int) (v3 : Int) (m : mR) : RP (rfl_touches_86 v1 v2 v3 m) (fun z : Int × mR => UR rF_touches rA_touches m z.2) := by
  unfold rfl_touches_86
  refine RP_bnd (u_rf_readsCode v1 ((m.2 107) v2) ((m.2 108) v2) m) (fun y15 h1 => ?_)
  have h2 : UR rF_touches rA_touches m y15.2 := (UR_s h1 UR_0 rfl rfl)
  exact RP_w (u_rfl_touches_103 v1 v2 v3 y15.2) (fun z hz => (UR_s hz h2 rfl rfl))
theorem u_rfl_touches_64 (v1 : Int) (v2 : Int) (v3 : Int) (m : mR) : RP (rfl_touches_64 v1 v2 v3 m) (fun z : Int × mR => UR rF_touches rA_touches m z.2) := by
  unfold rfl_touches_64
  refine RP_ite (fun h1 => ?_) (fun h1 => ?_)
  · skip
    exact RP_w (u_rfl_touches_86 v1 v2 v3 m) (fun z hz => (UR_s hz UR_0 rfl rfl))
  · skip
    refine RP_ite (fun h2 => ?_) (fun h2 => ?_)
    · skip
      exact RP_w (u_rfl_touches_86 v1 v2 v3 m) (fun z hz => (UR_s hz UR_0 rfl rfl))
    · skip
      exact RP_w (u_rfl_touches_103 v1 v2 v3 m) (fun z hz => (UR_s hz UR_0 rfl rfl))
theorem u_rfl_touches_47 (v1 : Int) (v2 : Int) (v3 : Int) (m : mR) : RP (rfl_touches_47 v1 v2 v3 m) (fun z : Int × mR => UR rF_touches rA_touches m z.2) := by
  unfold rfl_touches_47
  exact RP_w (u_rfl_touches_64 v1 v2 v3 (mO m [] [(137, upI (m.2 137) (cut ((cut (8 * v1)) + ((m.2 103) v2))) (nar1 1))])) (fun z hz => (UR_s hz (UR_m UR_0 rfl rfl (fun h => h)) rfl rfl))
theorem u_rfl_touches_30 (v1 : Int) (v2 : Int) (v3 : Int) (m : mR) : RP (rfl_touches_30 v1 v2 v3 m) (fun z : Int × mR => UR rF_touches rA_touches m z.2) := by
  unfold rfl_touches_30
  refine RP_bnd (u_rf_readsCode v1 ((m.2 105) v2) ((m.2 106) v2) m) (fun y20 h1 => ?_)
  have h2 : UR rF_touches rA_touches m y20.2 := (UR_s h1 UR_0 rfl rfl)
  exact RP_w (u_rfl_touches_47 v1 v2 v3 y20.2) (fun z hz => (UR_s hz h2 rfl rfl))
theorem u_rf_touches (v1 : Int) (v2 : Int) (m : mR) : RP (rf_touches v1 v2 m) (fun z : Int × mR => UR rF_touches rA_touches m z.2) := by
  unfold rf_touches
  refine RP_ite (fun h1 => ?_) (fun h1 => ?_)
  · skip
    exact RP_w (u_rfl_touches_30 v1 v2 (cut (221 * v1)) m) (fun z hz => (UR_s hz UR_0 rfl rfl))
  · skip
    refine RP_ite (fun h2 => ?_) (fun h2 => ?_)
    · skip
      exact RP_w (u_rfl_touches_30 v1 v2 (cut (221 * v1)) m) (fun z hz => (UR_s hz UR_0 rfl rfl))
    · skip
      exact RP_w (u_rfl_touches_64 v1 v2 (cut (221 * v1)) m) (fun z hz => (UR_s hz UR_0 rfl rfl))
def rF_touchesAction : List Nat := []
def rA_touchesAction : List Nat := [135, 136, 137]
theorem u_rfl_touchesAction_30 (v1 : Int) (v2 : Int) (v3 : Int) (m : mR) : RP (rfl_touchesAction_30 v1 v2 v3 m) (sel (fun z : (Int × mR) => UR rF_touchesAction rA_touchesAction m z.2) (fun z : mR => UR rF_touchesAction rA_touchesAction m z)) := by
  unfold rfl_touchesAction_30
  exact RP_some UR_0
theorem u_rfb_touchesAction_7 (v1 : Int) (v2 : Int) (s : Int × mR) : RP (rfb_touchesAction_7 v1 v2 s) (sel (fun z : (Int × mR) => UR rF_touchesAction rA_touchesAction s.2 z.2) (fun z : mR => UR rF_touchesAction rA_touchesAction s.2 z)) := by
  unfold rfb_touchesAction_7
  refine RP_ite (fun h1 => ?_) (fun h1 => ?_)
  · skip
    exact RP_some UR_0
  · skip
    refine RP_bnd (u_rf_touches v1 s.1 s.2) (fun y4 h2 => ?_)
    have h3 : UR rF_touchesAction rA_touchesAction s.2 y4.2 := (UR_s h2 UR_0 rfl rfl)
    exact RP_w (u_rfl_touchesAction_30 v1 v2 s.1 y4.2) (sl_w (fun z hz => (UR_s hz h3 rfl rfl)) (fun z hz => (UR_s hz h3 rfl rfl)))
theorem uw_rfb_touchesAction_7 (v1 : Int) (v2 : Int) (s : Int × mR) : RP (whl (rfb_touchesAction_7 v1 v2) s) (fun z : mR => UR rF_touchesAction rA_touchesAction s.2 z) := RP_whl (I := fun q : Int × mR => UR rF_touchesAction rA_touchesAction s.2 q.2) (fun q hq => RP_w (u_rfb_touchesAction_7 v1 v2 q) (sl_w (fun z hz => (UR_s hz hq rfl rfl)) (fun z hz => (UR_s hz hq rfl rfl)))) UR_0
theorem u_rf_touchesAction (v1 : Int) (v2 : Int) (m : mR) : RP (rf_touchesAction v1 v2 m) (fun z : Int × mR => UR rF_touchesAction rA_touchesAction m z.2) := by
  unfold rf_touchesAction
  refine RP_bnd (uw_rfb_touchesAction_7 v1 v2 ((m.2 109) v2, m)) (fun e7 h1 => ?_)
  have h2 : UR rF_touchesAction rA_touchesAction m e7 := (UR_s h1 UR_0 rfl rfl)
  exact RP_some h2
def rF_touchesAll : List Nat := []
def rA_touchesAll : List Nat := [135, 136, 137]
theorem u_rfl_touchesAll_210 (v1 : Int) (m : mR) : RP (rfl_touchesAll_210 v1 m) (sel (fun z : (Int × mR) => UR rF_touchesAll rA_touchesAll m z.2) (fun z : mR => UR rF_touchesAll rA_touchesAll m z)) := by
  unfold rfl_touchesAll_210
  exact RP_some UR_0
theorem u_rfl_touchesAll_199 (v1 : Int) (v2 : Int) (m : mR) : RP (rfl_touchesAll_199 v1 v2 m) (sel (fun z : (Int × mR) => UR rF_touchesAll rA_touchesAll m z.2) (fun z : mR => UR rF_touchesAll rA_touchesAll m z)) := by
  unfold rfl_touchesAll_199
  refine RP_bnd (u_rf_touchesAction v1 ((m.2 57) v2) m) (fun y6 h1 => ?_)
  have h2 : UR rF_touchesAll rA_touchesAll m y6.2 := (UR_s h1 UR_0 rfl rfl)
  exact RP_w (u_rfl_touchesAll_210 v1 y6.2) (sl_w (fun z hz => (UR_s hz h2 rfl rfl)) (fun z hz => (UR_s hz h2 rfl rfl)))
theorem u_rfl_touchesAll_193 (v1 : Int) (v2 : Int) (v3 : Int) (m : mR) : RP (rfl_touchesAll_193 v1 v2 v3 m) (sel (fun z : (Int × mR) => UR rF_touchesAll rA_touchesAll m z.2) (fun z : mR => UR rF_touchesAll rA_touchesAll m z)) := by
  unfold rfl_touchesAll_193
  exact RP_some UR_0
theorem u_rfb_touchesAll_167 (v1 : Int) (v2 : Int) (s : Int × mR) : RP (rfb_touchesAll_167 v1 v2 s) (sel (fun z : (Int × mR) => UR rF_touchesAll rA_touchesAll s.2 z.2) (fun z : mR => UR rF_touchesAll rA_touchesAll s.2 z)) := by
  unfold rfb_touchesAll_167
  refine RP_ite (fun h1 => ?_) (fun h1 => ?_)
  · skip
    exact RP_some UR_0
  · skip
    refine RP_bnd (u_rf_touchesAction v1 ((s.2.2 114) s.1) s.2) (fun y11 h2 => ?_)
    have h3 : UR rF_touchesAll rA_touchesAll s.2 y11.2 := (UR_s h2 UR_0 rfl rfl)
    exact RP_w (u_rfl_touchesAll_193 v1 v2 s.1 y11.2) (sl_w (fun z hz => (UR_s hz h3 rfl rfl)) (fun z hz => (UR_s hz h3 rfl rfl)))
theorem uw_rfb_touchesAll_167 (v1 : Int) (v2 : Int) (s : Int × mR) : RP (whl (rfb_touchesAll_167 v1 v2) s) (fun z : mR => UR rF_touchesAll rA_touchesAll s.2 z) := RP_whl (I := fun q : Int × mR => UR rF_touchesAll rA_touchesAll s.2 q.2) (fun q hq => RP_w (u_rfb_touchesAll_167 v1 v2 q) (sl_w (fun z hz => (UR_s hz hq rfl rfl)) (fun z hz => (UR_s hz hq rfl rfl)))) UR_0
theorem u_rfl_touchesAll_162 (v1 : Int) (v2 : Int) (m : mR) : RP (rfl_touchesAll_162 v1 v2 m) (sel (fun z : (Int × mR) => UR rF_touchesAll rA_touchesAll m z.2) (fun z : mR => UR rF_touchesAll rA_touchesAll m z)) := by
  unfold rfl_touchesAll_162
  refine RP_bnd (uw_rfb_touchesAll_167 v1 v2 (cut (8 * v2), m)) (fun e14 h1 => ?_)
  have h2 : UR rF_touchesAll rA_touchesAll m e14 := (UR_s h1 UR_0 rfl rfl)
  exact RP_w (u_rfl_touchesAll_199 v1 v2 e14) (sl_w (fun z hz => (UR_s hz h2 rfl rfl)) (fun z hz => (UR_s hz h2 rfl rfl)))
theorem u_rfl_touchesAll_156 (v1 : Int) (v2 : Int) (v3 : Int) (m : mR) : RP (rfl_touchesAll_156 v1 v2 v3 m) (sel (fun z : (Int × mR) => UR rF_touchesAll rA_touchesAll m z.2) (fun z : mR => UR rF_touchesAll rA_touchesAll m z)) := by
  unfold rfl_touchesAll_156
  exact RP_some UR_0
theorem u_rfb_touchesAll_125 (v1 : Int) (v2 : Int) (s : Int × mR) : RP (rfb_touchesAll_125 v1 v2 s) (sel (fun z : (Int × mR) => UR rF_touchesAll rA_touchesAll s.2 z.2) (fun z : mR => UR rF_touchesAll rA_touchesAll s.2 z)) := by
  unfold rfb_touchesAll_125
  refine RP_ite (fun h1 => ?_) (fun h1 => ?_)
  · skip
    exact RP_some UR_0
  · skip
    refine RP_bnd (u_rf_readsCode v1 ((s.2.2 110) s.1) ((s.2.2 111) s.1) s.2) (fun y19 h2 => ?_)
    have h3 : UR rF_touchesAll rA_touchesAll s.2 y19.2 := (UR_s h2 UR_0 rfl rfl)
    exact RP_w (u_rfl_touchesAll_156 v1 v2 s.1 y19.2) (sl_w (fun z hz => (UR_s hz h3 rfl rfl)) (fun z hz => (UR_s hz h3 rfl rfl)))
theorem uw_rfb_touchesAll_125 (v1 : Int) (v2 : Int) (s : Int × mR) : RP (whl (rfb_touchesAll_125 v1 v2) s) (fun z : mR => UR rF_touchesAll rA_touchesAll s.2 z) := RP_whl (I := fun q : Int × mR => UR rF_touchesAll rA_touchesAll s.2 q.2) (fun q hq => RP_w (u_rfb_touchesAll_125 v1 v2 q) (sl_w (fun z hz => (UR_s hz hq rfl rfl)) (fun z hz => (UR_s hz hq rfl rfl)))) UR_0
theorem u_rfb_touchesAll_53 (s : Int × mR) : RP (rfb_touchesAll_53 s) (sel (fun z : (Int × mR) => UR rF_touchesAll rA_touchesAll s.2 z.2) (fun z : mR => UR rF_touchesAll rA_touchesAll s.2 z)) := by
  unfold rfb_touchesAll_53
  refine RP_ite (fun h1 => ?_) (fun h1 => ?_)
  · skip
    exact RP_some UR_0
  · skip
    refine RP_ite (fun h2 => ?_) (fun h2 => ?_)
    · skip
      refine RP_bnd (u_rf_touches s.1 ((s.2.2 120) s.1) s.2) (fun y32 h3 => ?_)
      have h4 : UR rF_touchesAll rA_touchesAll s.2 y32.2 := (UR_s h3 UR_0 rfl rfl)
      exact RP_w (u_rfl_touchesAll_210 s.1 y32.2) (sl_w (fun z hz => (UR_s hz h4 rfl rfl)) (fun z hz => (UR_s hz h4 rfl rfl)))
    · skip
      refine RP_ite (fun h5 => ?_) (fun h5 => ?_)
      · skip
        refine RP_bnd (u_rf_readsCode s.1 ((s.2.2 121) s.1) ((s.2.2 122) s.1) s.2) (fun y29 h6 => ?_)
        have h7 : UR rF_touchesAll rA_touchesAll s.2 y29.2 := (UR_s h6 UR_0 rfl rfl)
        exact RP_w (u_rfl_touchesAll_210 s.1 y29.2) (sl_w (fun z hz => (UR_s hz h7 rfl rfl)) (fun z hz => (UR_s hz h7 rfl rfl)))
      · skip
        refine RP_bnd (uw_rfb_touchesAll_125 s.1 ((s.2.2 63) s.1) (cut (4 * ((s.2.2 63) s.1)), s.2)) (fun e26 h8 => ?_)
        have h9 : UR rF_touchesAll rA_touchesAll s.2 e26 := (UR_s h8 UR_0 rfl rfl)
        exact RP_w (u_rfl_touchesAll_162 s.1 ((s.2.2 63) s.1) e26) (sl_w (fun z hz => (UR_s hz h9 rfl rfl)) (fun z hz => (UR_s hz h9 rfl rfl)))
theorem uw_rfb_touchesAll_53 (s : Int × mR) : RP (whl rfb_touchesAll_53 s) (fun z : mR => UR rF_touchesAll rA_touchesAll s.2 z) := RP_whl (I := fun q : Int × mR => UR rF_touchesAll rA_touchesAll s.2 q.2) (fun q hq => RP_w (u_rfb_touchesAll_53 q) (sl_w (fun z hz => (UR_s hz hq rfl rfl)) (fun z hz => (UR_s hz hq rfl rfl)))) UR_0
theorem u_rfl_touchesAll_51 (m : mR) : RP (rfl_touchesAll_51 m) (fun z : Int × mR => UR rF_touchesAll rA_touchesAll m z.2) := by
  unfold rfl_touchesAll_51
  refine RP_bnd (uw_rfb_touchesAll_53 (0, m)) (fun e35 h1 => ?_)
  have h2 : UR rF_touchesAll rA_touchesAll m e35 := (UR_s h1 UR_0 rfl rfl)
  exact RP_some h2
theorem u_rfb_touchesAll_31 (s : Int × mR) : RP (rfb_touchesAll_31 s) (sel (fun z : (Int × mR) => UR rF_touchesAll rA_touchesAll s.2 z.2) (fun z : mR => UR rF_touchesAll rA_touchesAll s.2 z)) := by
  unfold rfb_touchesAll_31
  refine RP_ite (fun h1 => ?_) (fun h1 => ?_)
  · skip
    exact RP_some UR_0
  · skip
    exact RP_some (UR_m UR_0 rfl rfl (fun h => h))
theorem uw_rfb_touchesAll_31 (s : Int × mR) : RP (whl rfb_touchesAll_31 s) (fun z : mR => UR rF_touchesAll rA_touchesAll s.2 z) := RP_whl (I := fun q : Int × mR => UR rF_touchesAll rA_touchesAll s.2 q.2) (fun q hq => RP_w (u_rfb_touchesAll_31 q) (sl_w (fun z hz => (UR_s hz hq rfl rfl)) (fun z hz => (UR_s hz hq rfl rfl)))) UR_0
theorem u_rfl_touchesAll_29 (m : mR) : RP (rfl_touchesAll_29 m) (fun z : Int × mR => UR rF_touchesAll rA_touchesAll m z.2) := by
  unfold rfl_touchesAll_29
  refine RP_bnd (uw_rfb_touchesAll_31 (0, m)) (fun e40 h1 => ?_)
  have h2 : UR rF_touchesAll rA_touchesAll m e40 := (UR_s h1 UR_0 rfl rfl)
  exact RP_w (u_rfl_touchesAll_51 e40) (fun z hz => (UR_s hz h2 rfl rfl))
theorem u_rfb_touchesAll_2 (s : Int × mR) : RP (rfb_touchesAll_2 s) (sel (fun z : (Int × mR) => UR rF_touchesAll rA_touchesAll s.2 z.2) (fun z : mR => UR rF_touchesAll rA_touchesAll s.2 z)) := by
  unfold rfb_touchesAll_2
  refine RP_ite (fun h1 => ?_) (fun h1 => ?_)
  · skip
    exact RP_some UR_0
  · skip
    exact RP_some (UR_m UR_0 rfl rfl (fun h => h))
theorem uw_rfb_touchesAll_2 (s : Int × mR) : RP (whl rfb_touchesAll_2 s) (fun z : mR => UR rF_touchesAll rA_touchesAll s.2 z) := RP_whl (I := fun q : Int × mR => UR rF_touchesAll rA_touchesAll s.2 q.2) (fun q hq => RP_w (u_rfb_touchesAll_2 q) (sl_w (fun z hz => (UR_s hz hq rfl rfl)) (fun z hz => (UR_s hz hq rfl rfl)))) UR_0
theorem u_rf_touchesAll (m : mR) : RP (rf_touchesAll m) (fun z : Int × mR => UR rF_touchesAll rA_touchesAll m z.2) := by
  unfold rf_touchesAll
  refine RP_bnd (uw_rfb_touchesAll_2 (0, m)) (fun e45 h1 => ?_)
  have h2 : UR rF_touchesAll rA_touchesAll m e45 := (UR_s h1 UR_0 rfl rfl)
  exact RP_w (u_rfl_touchesAll_29 e45) (fun z hz => (UR_s hz h2 rfl rfl))
def rF_lay : List Nat := [1, 128, 129, 130]
def rA_lay : List Nat := [131, 132, 133, 134, 135, 136, 137]
theorem u_rfl_lay_236 (m : mR) : RP (rfl_lay_236 m) (fun z : Int × mR => UR rF_lay rA_lay m z.2) := by
  unfold rfl_lay_236
  exact RP_some (UR_m UR_0 rfl rfl (fun h => h))
theorem u_rfl_lay_227 (v1 : Int) (v2 : Int) (v3 : Int) (v4 : Int) (u1 : Int) (m : mR) : RP (rfl_lay_227 v1 v2 v3 v4 u1 m) (sel (fun z : (Int × mR) => UR rF_lay rA_lay m z.2) (sel (fun z : (Int × mR) => UR rF_lay rA_lay m z.2) (fun z : mR => UR rF_lay rA_lay m z))) := by
  unfold rfl_lay_227
  exact RP_some (UR_m UR_0 rfl rfl (fun h => h))
theorem u_rfl_lay_139 (v4 : Int) (m : mR) : RP (rfl_lay_139 v4 m) (fun z : Int × mR => UR rF_lay rA_lay m z.2) := by
  unfold rfl_lay_139
  exact RP_some (UR_m UR_0 rfl rfl (fun h => h))
theorem u_rfb_lay_112 (v1 : Int) (v2 : Int) (v3 : Int) (s : Int × mR) : RP (rfb_lay_112 v1 v2 v3 s) (sel (fun z : (Int × mR) => UR rF_lay rA_lay s.2 z.2) (sel (fun z : (Int × mR) => UR rF_lay rA_lay s.2 z.2) (fun z : mR => UR rF_lay rA_lay s.2 z))) := by
  unfold rfb_lay_112
  refine RP_ite (fun h1 => ?_) (fun h1 => ?_)
  · skip
    exact RP_some UR_0
  · skip
    refine RP_bndT (fun y9 => ?_)
    refine RP_ite (fun h2 => ?_) (fun h2 => ?_)
    · skip
      refine RP_bndT (fun y12 => ?_)
      refine RP_bndT (fun y14 => ?_)
      refine RP_ite (fun h3 => ?_) (fun h3 => ?_)
      · skip
        exact RP_w (u_rfl_lay_227 v1 v2 v3 s.1 (s.2.1 129) (mO s.2 [] [(131, upI (s.2.2 131) s.1 y9), (132, upI (s.2.2 132) y9 (cut (((s.2.2 132) y9) + 1))), (133, upI (s.2.2 133) y9 (cutl (((s.2.2 133) y9) + y12))), (134, upI (s.2.2 134) y9 (cutl (((s.2.2 134) y9) + y14)))])) (sl_w (fun z hz => (UR_s hz (UR_m UR_0 rfl rfl (fun h => h)) rfl rfl)) (sl_w (fun z hz => (UR_s hz (UR_m UR_0 rfl rfl (fun h => h)) rfl rfl)) (fun z hz => (UR_s hz (UR_m UR_0 rfl rfl (fun h => h)) rfl rfl))))
      · skip
        exact RP_w (u_rfl_lay_227 v1 v2 v3 s.1 (cut (y9 + 1)) (mO s.2 [] [(131, upI (s.2.2 131) s.1 y9), (132, upI (s.2.2 132) y9 (cut (((s.2.2 132) y9) + 1))), (133, upI (s.2.2 133) y9 (cutl (((s.2.2 133) y9) + y12))), (134, upI (s.2.2 134) y9 (cutl (((s.2.2 134) y9) + y14)))])) (sl_w (fun z hz => (UR_s hz (UR_m UR_0 rfl rfl (fun h => h)) rfl rfl)) (sl_w (fun z hz => (UR_s hz (UR_m UR_0 rfl rfl (fun h => h)) rfl rfl)) (fun z hz => (UR_s hz (UR_m UR_0 rfl rfl (fun h => h)) rfl rfl))))
    · skip
      exact RP_some UR_0
theorem uw_rfb_lay_112 (v1 : Int) (v2 : Int) (v3 : Int) (s : Int × mR) : RP (whl (rfb_lay_112 v1 v2 v3) s) (sel (fun z : ((Int × mR)) => UR rF_lay rA_lay s.2 z.2) (fun z : mR => UR rF_lay rA_lay s.2 z)) := RP_whl (I := fun q : Int × mR => UR rF_lay rA_lay s.2 q.2) (fun q hq => RP_w (u_rfb_lay_112 v1 v2 v3 q) (sl_w (fun z hz => (UR_s hz hq rfl rfl)) (sl_w (fun z hz => (UR_s hz hq rfl rfl)) (fun z hz => (UR_s hz hq rfl rfl))))) UR_0
theorem u_rfl_lay_104 (v1 : Int) (v2 : Int) (v3 : Int) (m : mR) : RP (rfl_lay_104 v1 v2 v3 m) (fun z : Int × mR => UR rF_lay rA_lay m z.2) := by
  unfold rfl_lay_104
  refine RP_bnd (uw_rfb_lay_112 v1 v2 v3 (0, (mO m [(129, 1)] []))) (RP_sl (fun e17 h1 => ?_) (fun e21 h3 => ?_))
  · skip
    have h2 : UR rF_lay rA_lay m e17.2 := (UR_s h1 (UR_m UR_0 rfl rfl (fun h => h)) rfl rfl)
    exact RP_w (u_rfl_lay_139 e17.1 e17.2) (fun z hz => (UR_s hz h2 rfl rfl))
  · skip
    have h4 : UR rF_lay rA_lay m e21 := (UR_s h3 (UR_m UR_0 rfl rfl (fun h => h)) rfl rfl)
    exact RP_w (u_rfl_lay_236 e21) (fun z hz => (UR_s hz h4 rfl rfl))
theorem u_rfb_lay_67 (v1 : Int) (v2 : Int) (v3 : Int) (s : Int × mR) : RP (rfb_lay_67 v1 v2 v3 s) (sel (fun z : (Int × mR) => UR rF_lay rA_lay s.2 z.2) (fun z : mR => UR rF_lay rA_lay s.2 z)) := by
  unfold rfb_lay_67
  refine RP_ite (fun h1 => ?_) (fun h1 => ?_)
  · skip
    exact RP_some UR_0
  · skip
    exact RP_some (UR_m UR_0 rfl rfl (fun h => h))
theorem uw_rfb_lay_67 (v1 : Int) (v2 : Int) (v3 : Int) (s : Int × mR) : RP (whl (rfb_lay_67 v1 v2 v3) s) (fun z : mR => UR rF_lay rA_lay s.2 z) := RP_whl (I := fun q : Int × mR => UR rF_lay rA_lay s.2 q.2) (fun q hq => RP_w (u_rfb_lay_67 v1 v2 v3 q) (sl_w (fun z hz => (UR_s hz hq rfl rfl)) (fun z hz => (UR_s hz hq rfl rfl)))) UR_0
theorem u_rfl_lay_64 (v1 : Int) (v2 : Int) (v3 : Int) (m : mR) : RP (rfl_lay_64 v1 v2 v3 m) (fun z : Int × mR => UR rF_lay rA_lay m z.2) := by
  unfold rfl_lay_64
  refine RP_bnd (uw_rfb_lay_67 v1 v2 v3 (0, m)) (fun e26 h1 => ?_)
  have h2 : UR rF_lay rA_lay m e26 := (UR_s h1 UR_0 rfl rfl)
  exact RP_w (u_rfl_lay_104 v1 v2 v3 e26) (fun z hz => (UR_s hz h2 rfl rfl))
theorem u_rfl_lay_43 (v1 : Int) (v2 : Int) (v3 : Int) (u1 : Int) (m : mR) : RP (rfl_lay_43 v1 v2 v3 u1 m) (fun z : Int × mR => UR rF_lay rA_lay m z.2) := by
  unfold rfl_lay_43
  refine RP_ite (fun h1 => ?_) (fun h1 => ?_)
  · skip
    refine RP_bnd (u_rf_touchesAll (mO m [(1, u1), (130, (-1))] [])) (fun y30 h2 => ?_)
    have h3 : UR rF_lay rA_lay m y30.2 := (UR_s h2 (UR_m UR_0 rfl rfl (fun h => h)) rfl rfl)
    exact RP_w (u_rfl_lay_64 v1 v2 v3 y30.2) (fun z hz => (UR_s hz h3 rfl rfl))
  · skip
    exact RP_some (UR_m UR_0 rfl rfl (fun h => h))
theorem u_rfl_lay_38 (v1 : Int) (v2 : Int) (v3 : Int) (m : mR) : RP (rfl_lay_38 v1 v2 v3 m) (fun z : Int × mR => UR rF_lay rA_lay m z.2) := by
  unfold rfl_lay_38
  exact RP_w (u_rfl_lay_43 v1 v2 v3 2 m) (fun z hz => (UR_s hz UR_0 rfl rfl))
theorem u_rfl_lay_15 (v1 : Int) (v2 : Int) (v3 : Int) (m : mR) : RP (rfl_lay_15 v1 v2 v3 m) (fun z : Int × mR => UR rF_lay rA_lay m z.2) := by
  unfold rfl_lay_15
  exact RP_w (u_rfl_lay_43 v1 v2 v3 1 m) (fun z hz => (UR_s hz UR_0 rfl rfl))
theorem u_rf_lay (v1 : Int) (v2 : Int) (v3 : Int) (m : mR) : RP (rf_lay v1 v2 v3 m) (fun z : Int × mR => UR rF_lay rA_lay m z.2) := by
  unfold rf_lay
  refine RP_ite (fun h1 => ?_) (fun h1 => ?_)
  · skip
    exact RP_w (u_rfl_lay_15 v1 v2 v3 m) (fun z hz => (UR_s hz UR_0 rfl rfl))
  · skip
    refine RP_ite (fun h2 => ?_) (fun h2 => ?_)
    · skip
      refine RP_ite (fun h3 => ?_) (fun h3 => ?_)
      · skip
        exact RP_w (u_rfl_lay_38 v1 v2 v3 m) (fun z hz => (UR_s hz UR_0 rfl rfl))
      · skip
        refine RP_ite (fun h4 => ?_) (fun h4 => ?_)
        · skip
          exact RP_w (u_rfl_lay_38 v1 v2 v3 m) (fun z hz => (UR_s hz UR_0 rfl rfl))
        · skip
          refine RP_ite (fun h5 => ?_) (fun h5 => ?_)
          · skip
            exact RP_w (u_rfl_lay_38 v1 v2 v3 m) (fun z hz => (UR_s hz UR_0 rfl rfl))
          · skip
            refine RP_ite (fun h6 => ?_) (fun h6 => ?_)
            · skip
              exact RP_w (u_rfl_lay_43 v1 v2 v3 0 m) (fun z hz => (UR_s hz UR_0 rfl rfl))
            · skip
              exact RP_w (u_rfl_lay_38 v1 v2 v3 m) (fun z hz => (UR_s hz UR_0 rfl rfl))
    · skip
      exact RP_w (u_rfl_lay_15 v1 v2 v3 m) (fun z hz => (UR_s hz UR_0 rfl rfl))
