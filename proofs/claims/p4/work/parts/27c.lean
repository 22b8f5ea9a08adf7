def rF_takeStatement : List Nat := [7, 8, 9, 10, 11, 12, 28, 69, 70, 71, 72, 73, 74, 75, 99, 100]
def rA_takeStatement : List Nat := [65, 66, 67, 68, 76, 77, 78, 79, 80, 81, 82, 83, 84, 85, 86, 87, 88, 89, 90, 91, 92, 101, 102, 103, 104, 105, 106, 107, 108]
theorem u_rfl_takeStatement_229 (m : mR) : RP (rfl_takeStatement_229 m) (fun z : Int × mR => UR rF_takeStatement rA_takeStatement m z.2) := by
  unfold rfl_takeStatement_229
  refine RP_bnd (u_rf_need 59 m) (fun y1 h1 => ?_)
  have h2 : UR rF_takeStatement rA_takeStatement m y1.2 := (UR_s h1 UR_0 rfl rfl)
  exact RP_some h2
theorem u_rfl_takeStatement_228 (u1 : Int) (u2 : Int) (m : mR) : RP (rfl_takeStatement_228 u1 u2 m) (fun z : Int × mR => UR rF_takeStatement rA_takeStatement m z.2) := by
  unfold rfl_takeStatement_228
  exact RP_w (u_rfl_takeStatement_229 (mO m [] [(104, upI (m.2 104) u1 u2)])) (fun z hz => (UR_s hz (UR_m UR_0 rfl rfl (fun h => h)) rfl rfl))
theorem u_rfl_takeStatement_206 (v1 : Int) (m : mR) : RP (rfl_takeStatement_206 v1 m) (fun z : Int × mR => UR rF_takeStatement rA_takeStatement m z.2) := by
  unfold rfl_takeStatement_206
  refine RP_ite (fun h1 => ?_) (fun h1 => ?_)
  · skip
    exact RP_w (u_rfl_takeStatement_229 m) (fun z hz => (UR_s hz UR_0 rfl rfl))
  · skip
    refine RP_bnd (u_rf_oldName 2 m) (fun y5 h2 => ?_)
    have h3 : UR rF_takeStatement rA_takeStatement m y5.2 := (UR_s h2 UR_0 rfl rfl)
    exact RP_w (u_rfl_takeStatement_228 v1 y5.1 y5.2) (fun z hz => (UR_s hz h3 rfl rfl))
theorem u_rfl_takeStatement_176 (v1 : Int) (m : mR) : RP (rfl_takeStatement_176 v1 m) (fun z : Int × mR => UR rF_takeStatement rA_takeStatement m z.2) := by
  unfold rfl_takeStatement_176
  refine RP_ite (fun h1 => ?_) (fun h1 => ?_)
  · skip
    refine RP_bnd (u_rf_takeWorth v1 ((m.2 36) ((m.2 103) v1)) m) (fun y9 h2 => ?_)
    have h3 : UR rF_takeStatement rA_takeStatement m y9.2 := (UR_s h2 UR_0 rfl rfl)
    exact RP_w (u_rfl_takeStatement_229 y9.2) (fun z hz => (UR_s hz h3 rfl rfl))
  · skip
    exact RP_w (u_rfl_takeStatement_229 m) (fun z hz => (UR_s hz UR_0 rfl rfl))
theorem u_rfl_takeStatement_170 (v1 : Int) (u1 : Int) (u2 : Int) (m : mR) : RP (rfl_takeStatement_170 v1 u1 u2 m) (fun z : Int × mR => UR rF_takeStatement rA_takeStatement m z.2) := by
  unfold rfl_takeStatement_170
  refine RP_bnd (u_rf_takeIndex v1 (mO m [] [(103, upI (m.2 103) u1 u2)])) (fun y12 h1 => ?_)
  have h2 : UR rF_takeStatement rA_takeStatement m y12.2 := (UR_s h1 (UR_m UR_0 rfl rfl (fun h => h)) rfl rfl)
  exact RP_w (u_rfl_takeStatement_176 v1 y12.2) (fun z hz => (UR_s hz h2 rfl rfl))
theorem u_rfl_takeStatement_160 (v1 : Int) (m : mR) : RP (rfl_takeStatement_160 v1 m) (fun z : Int × mR => UR rF_takeStatement rA_takeStatement m z.2) := by
  unfold rfl_takeStatement_160
  refine RP_bnd (u_rf_oldName 4 m) (fun y15 h1 => ?_)
  have h2 : UR rF_takeStatement rA_takeStatement m y15.2 := (UR_s h1 UR_0 rfl rfl)
  exact RP_w (u_rfl_takeStatement_170 v1 v1 y15.1 y15.2) (fun z hz => (UR_s hz h2 rfl rfl))
theorem u_rfl_takeStatement_138 (v1 : Int) (m : mR) : RP (rfl_takeStatement_138 v1 m) (fun z : Int × mR => UR rF_takeStatement rA_takeStatement m z.2) := by
  unfold rfl_takeStatement_138
  refine RP_bnd (u_rf_takeIndex v1 m) (fun y18 h1 => ?_)
  have h2 : UR rF_takeStatement rA_takeStatement m y18.2 := (UR_s h1 UR_0 rfl rfl)
  exact RP_w (u_rfl_takeStatement_229 y18.2) (fun z hz => (UR_s hz h2 rfl rfl))
theorem u_rfl_takeStatement_134 (v1 : Int) (v2 : Int) (u1 : Int) (m : mR) : RP (rfl_takeStatement_134 v1 v2 u1 m) (fun z : Int × mR => UR rF_takeStatement rA_takeStatement m z.2) := by
  unfold rfl_takeStatement_134
  refine RP_bnd (u_rf_want u1 v2 m) (fun y21 h1 => ?_)
  have h2 : UR rF_takeStatement rA_takeStatement m y21.2 := (UR_s h1 UR_0 rfl rfl)
  exact RP_w (u_rfl_takeStatement_138 v1 y21.2) (fun z hz => (UR_s hz h2 rfl rfl))
theorem u_rfl_takeStatement_102 (v1 : Int) (v2 : Int) (u1 : Int) (u2 : Int) (m : mR) : RP (rfl_takeStatement_102 v1 v2 u1 u2 m) (fun z : Int × mR => UR rF_takeStatement rA_takeStatement m z.2) := by
  unfold rfl_takeStatement_102
  refine RP_ite (fun h1 => ?_) (fun h1 => ?_)
  · skip
    refine RP_ite (fun h2 => ?_) (fun h2 => ?_)
    · skip
      exact RP_w (u_rfl_takeStatement_134 v1 v2 1 (mO m [] [(103, upI (m.2 103) u1 u2)])) (fun z hz => (UR_s hz (UR_m UR_0 rfl rfl (fun h => h)) rfl rfl))
    · skip
      exact RP_w (u_rfl_takeStatement_134 v1 v2 0 (mO m [] [(103, upI (m.2 103) u1 u2)])) (fun z hz => (UR_s hz (UR_m UR_0 rfl rfl (fun h => h)) rfl rfl))
  · skip
    exact RP_w (u_rfl_takeStatement_138 v1 (mO m [] [(103, upI (m.2 103) u1 u2)])) (fun z hz => (UR_s hz (UR_m UR_0 rfl rfl (fun h => h)) rfl rfl))
theorem u_rfl_takeStatement_86 (v1 : Int) (u1 : Int) (u2 : Int) (m : mR) : RP (rfl_takeStatement_86 v1 u1 u2 m) (fun z : Int × mR => UR rF_takeStatement rA_takeStatement m z.2) := by
  unfold rfl_takeStatement_86
  refine RP_bnd (u_rf_oldName 4 (mO m [] [(102, upI (m.2 102) u1 u2)])) (fun y26 h1 => ?_)
  have h2 : UR rF_takeStatement rA_takeStatement m y26.2 := (UR_s h1 (UR_m UR_0 rfl rfl (fun h => h)) rfl rfl)
  exact RP_w (u_rfl_takeStatement_102 v1 (m.1 8) v1 y26.1 y26.2) (fun z hz => (UR_s hz h2 rfl rfl))
theorem u_rfl_takeStatement_77 (v1 : Int) (m : mR) : RP (rfl_takeStatement_77 v1 m) (fun z : Int × mR => UR rF_takeStatement rA_takeStatement m z.2) := by
  unfold rfl_takeStatement_77
  refine RP_bnd (u_rf_takePlace m) (fun y29 h1 => ?_)
  have h2 : UR rF_takeStatement rA_takeStatement m y29.2 := (UR_s h1 UR_0 rfl rfl)
  exact RP_w (u_rfl_takeStatement_86 v1 v1 y29.1 y29.2) (fun z hz => (UR_s hz h2 rfl rfl))
theorem u_rfl_takeStatement_54 (v1 : Int) (v2 : Int) (m : mR) : RP (rfl_takeStatement_54 v1 v2 m) (fun z : Int × mR => UR rF_takeStatement rA_takeStatement m z.2) := by
  unfold rfl_takeStatement_54
  refine RP_bnd (u_rf_takeWorth v1 v2 m) (fun y32 h1 => ?_)
  have h2 : UR rF_takeStatement rA_takeStatement m y32.2 := (UR_s h1 UR_0 rfl rfl)
  exact RP_w (u_rfl_takeStatement_229 y32.2) (fun z hz => (UR_s hz h2 rfl rfl))
theorem u_rfl_takeStatement_42 (v1 : Int) (u1 : Int) (u2 : Int) (m : mR) : RP (rfl_takeStatement_42 v1 u1 u2 m) (fun z : Int × mR => UR rF_takeStatement rA_takeStatement m z.2) := by
  unfold rfl_takeStatement_42
  refine RP_bnd (u_rf_need 61 (mO m [] [(102, upI (m.2 102) u1 u2)])) (fun y35 h1 => ?_)
  have h2 : UR rF_takeStatement rA_takeStatement m y35.2 := (UR_s h1 (UR_m UR_0 rfl rfl (fun h => h)) rfl rfl)
  exact RP_w (u_rfl_takeStatement_54 v1 (m.1 100) y35.2) (fun z hz => (UR_s hz h2 rfl rfl))
theorem u_rf_takeStatement (m : mR) : RP (rf_takeStatement m) (fun z : Int × mR => UR rF_takeStatement rA_takeStatement m z.2) := by
  unfold rf_takeStatement
  refine RP_ite (fun h1 => ?_) (fun h1 => ?_)
  · skip
    refine RP_bnd (u_rf_takePlace (mO m [(99, cut ((m.1 99) + 1))] [(101, upI (m.2 101) (m.1 99) (m.1 7))])) (fun y50 h2 => ?_)
    have h3 : UR rF_takeStatement rA_takeStatement m y50.2 := (UR_s h2 (UR_m UR_0 rfl rfl (fun h => h)) rfl rfl)
    exact RP_w (u_rfl_takeStatement_42 (m.1 99) (m.1 99) y50.1 y50.2) (fun z hz => (UR_s hz h3 rfl rfl))
  · skip
    refine RP_ite (fun h4 => ?_) (fun h4 => ?_)
    · skip
      refine RP_bnd (u_rf_next (mO m [(99, cut ((m.1 99) + 1))] [(101, upI (m.2 101) (m.1 99) (m.1 7))])) (fun y47 h5 => ?_)
      have h6 : UR rF_takeStatement rA_takeStatement m y47.2 := (UR_s h5 (UR_m UR_0 rfl rfl (fun h => h)) rfl rfl)
      exact RP_w (u_rfl_takeStatement_77 (m.1 99) y47.2) (fun z hz => (UR_s hz h6 rfl rfl))
    · skip
      refine RP_ite (fun h7 => ?_) (fun h7 => ?_)
      · skip
        refine RP_bnd (u_rf_next (mO m [(99, cut ((m.1 99) + 1))] [(101, upI (m.2 101) (m.1 99) (m.1 7))])) (fun y44 h8 => ?_)
        have h9 : UR rF_takeStatement rA_takeStatement m y44.2 := (UR_s h8 (UR_m UR_0 rfl rfl (fun h => h)) rfl rfl)
        exact RP_w (u_rfl_takeStatement_160 (m.1 99) y44.2) (fun z hz => (UR_s hz h9 rfl rfl))
      · skip
        refine RP_bnd (u_rf_next (mO m [(99, cut ((m.1 99) + 1))] [(101, upI (m.2 101) (m.1 99) (m.1 7))])) (fun y41 h10 => ?_)
        have h11 : UR rF_takeStatement rA_takeStatement m y41.2 := (UR_s h10 (UR_m UR_0 rfl rfl (fun h => h)) rfl rfl)
        exact RP_w (u_rfl_takeStatement_206 (m.1 99) y41.2) (fun z hz => (UR_s hz h11 rfl rfl))
def rF_takeAction : List Nat := [7, 8, 9, 10, 11, 12, 13, 25, 28, 64, 69, 70, 71, 72, 73, 74, 75, 99, 100]
def rA_takeAction : List Nat := [14, 15, 16, 17, 46, 47, 48, 49, 50, 65, 66, 67, 68, 76, 77, 78, 79, 80, 81, 82, 83, 84, 85, 86, 87, 88, 89, 90, 91, 92, 101, 102, 103, 104, 105, 106, 107, 108, 109]
theorem u_rfl_takeAction_211 (m : mR) : RP (rfl_takeAction_211 m) (fun z : Int × mR => UR rF_takeAction rA_takeAction m z.2) := by
  unfold rfl_takeAction_211
  refine RP_bnd (u_rf_need 125 (mO m [(64, (-1))] [])) (fun y3 h1 => ?_)
  have h2 : UR rF_takeAction rA_takeAction m y3.2 := (UR_s h1 (UR_m UR_0 rfl rfl (fun h => h)) rfl rfl)
  exact RP_some h2
theorem u_rfl_takeAction_198 (v1 : Int) (m : mR) : RP (rfl_takeAction_198 v1 m) (sel (fun z : (mR) => UR rF_takeAction rA_takeAction m z) (fun z : mR => UR rF_takeAction rA_takeAction m z)) := by
  unfold rfl_takeAction_198
  exact RP_some (UR_m UR_0 rfl rfl (fun h => h))
theorem u_rfl_takeAction_187 (v1 : Int) (m : mR) : RP (rfl_takeAction_187 v1 m) (sel (fun z : (mR) => UR rF_takeAction rA_takeAction m z) (fun z : mR => UR rF_takeAction rA_takeAction m z)) := by
  unfold rfl_takeAction_187
  refine RP_ite (fun h1 => ?_) (fun h1 => ?_)
  · skip
    refine RP_bnd (u_rf_takeStatement m) (fun y7 h2 => ?_)
    have h3 : UR rF_takeAction rA_takeAction m y7.2 := (UR_s h2 UR_0 rfl rfl)
    exact RP_w (u_rfl_takeAction_198 v1 y7.2) (sl_w (fun z hz => (UR_s hz h3 rfl rfl)) (fun z hz => (UR_s hz h3 rfl rfl)))
  · skip
    exact RP_w (u_rfl_takeAction_198 v1 m) (sl_w (fun z hz => (UR_s hz UR_0 rfl rfl)) (fun z hz => (UR_s hz UR_0 rfl rfl)))
theorem u_rfb_takeAction_153 (v1 : Int) (s : mR) : RP (rfb_takeAction_153 v1 s) (sel (fun z : (mR) => UR rF_takeAction rA_takeAction s z) (fun z : mR => UR rF_takeAction rA_takeAction s z)) := by
  unfold rfb_takeAction_153
  refine RP_ite (fun h1 => ?_) (fun h1 => ?_)
  · skip
    refine RP_bndT (fun y12 => ?_)
    refine RP_ite (fun h2 => ?_) (fun h2 => ?_)
    · skip
      exact RP_some UR_0
    · skip
      refine RP_ite (fun h3 => ?_) (fun h3 => ?_)
      · skip
        refine RP_bnd (u_rf_wrong 4 (s.1 8) s) (fun y16 h4 => ?_)
        have h5 : UR rF_takeAction rA_takeAction s y16.2 := (UR_s h4 UR_0 rfl rfl)
        exact RP_w (u_rfl_takeAction_187 v1 y16.2) (sl_w (fun z hz => (UR_s hz h5 rfl rfl)) (fun z hz => (UR_s hz h5 rfl rfl)))
      · skip
        exact RP_w (u_rfl_takeAction_187 v1 s) (sl_w (fun z hz => (UR_s hz UR_0 rfl rfl)) (fun z hz => (UR_s hz UR_0 rfl rfl)))
  · skip
    exact RP_some UR_0
theorem uw_rfb_takeAction_153 (v1 : Int) (s : mR) : RP (whl (rfb_takeAction_153 v1) s) (fun z : mR => UR rF_takeAction rA_takeAction s z) := RP_whl (I := fun q : mR => UR rF_takeAction rA_takeAction s q) (fun q hq => RP_w (u_rfb_takeAction_153 v1 q) (sl_w (fun z hz => (UR_s hz hq rfl rfl)) (fun z hz => (UR_s hz hq rfl rfl)))) UR_0
theorem u_rfl_takeAction_148 (v1 : Int) (m : mR) : RP (rfl_takeAction_148 v1 m) (fun z : Int × mR => UR rF_takeAction rA_takeAction m z.2) := by
  unfold rfl_takeAction_148
  refine RP_bnd (uw_rfb_takeAction_153 v1 (mO m [(64, v1)] [])) (fun e19 h1 => ?_)
  have h2 : UR rF_takeAction rA_takeAction m e19 := (UR_s h1 (UR_m UR_0 rfl rfl (fun h => h)) rfl rfl)
  exact RP_w (u_rfl_takeAction_211 e19) (fun z hz => (UR_s hz h2 rfl rfl))
theorem u_rfl_takeAction_142 (v1 : Int) (m : mR) : RP (rfl_takeAction_142 v1 m) (fun z : Int × mR => UR rF_takeAction rA_takeAction m z.2) := by
  unfold rfl_takeAction_142
  refine RP_bnd (u_rf_need 123 m) (fun y22 h1 => ?_)
  have h2 : UR rF_takeAction rA_takeAction m y22.2 := (UR_s h1 UR_0 rfl rfl)
  exact RP_w (u_rfl_takeAction_148 v1 y22.2) (fun z hz => (UR_s hz h2 rfl rfl))
theorem u_rfl_takeAction_136 (v1 : Int) (m : mR) : RP (rfl_takeAction_136 v1 m) (fun z : Int × mR => UR rF_takeAction rA_takeAction m z.2) := by
  unfold rfl_takeAction_136
  refine RP_bnd (u_rf_need 41 m) (fun y25 h1 => ?_)
  have h2 : UR rF_takeAction rA_takeAction m y25.2 := (UR_s h1 UR_0 rfl rfl)
  exact RP_w (u_rfl_takeAction_142 v1 y25.2) (fun z hz => (UR_s hz h2 rfl rfl))
theorem u_rfl_takeAction_124 (v1 : Int) (u0 : Int) (m : mR) : RP (rfl_takeAction_124 v1 u0 m) (sel (fun z : (Int × mR) => UR rF_takeAction rA_takeAction m z.2) (fun z : mR => UR rF_takeAction rA_takeAction m z)) := by
  unfold rfl_takeAction_124
  refine RP_ite (fun h1 => ?_) (fun h1 => ?_)
  · skip
    exact RP_some UR_0
  · skip
    refine RP_bnd (u_rf_next m) (fun y29 h2 => ?_)
    have h3 : UR rF_takeAction rA_takeAction m y29.2 := (UR_s h2 UR_0 rfl rfl)
    exact RP_some h3
theorem u_rfl_takeAction_123 (v1 : Int) (m : mR) : RP (rfl_takeAction_123 v1 m) (sel (fun z : (Int × mR) => UR rF_takeAction rA_takeAction m z.2) (fun z : mR => UR rF_takeAction rA_takeAction m z)) := by
  unfold rfl_takeAction_123
  exact RP_w (u_rfl_takeAction_124 v1 0 m) (sl_w (fun z hz => (UR_s hz UR_0 rfl rfl)) (fun z hz => (UR_s hz UR_0 rfl rfl)))
theorem u_rfl_takeAction_103 (v1 : Int) (m : mR) : RP (rfl_takeAction_103 v1 m) (sel (fun z : (Int × mR) => UR rF_takeAction rA_takeAction m z.2) (fun z : mR => UR rF_takeAction rA_takeAction m z)) := by
  unfold rfl_takeAction_103
  refine RP_ite (fun h1 => ?_) (fun h1 => ?_)
  · skip
    refine RP_ite (fun h2 => ?_) (fun h2 => ?_)
    · skip
      exact RP_w (u_rfl_takeAction_124 v1 1 m) (sl_w (fun z hz => (UR_s hz UR_0 rfl rfl)) (fun z hz => (UR_s hz UR_0 rfl rfl)))
    · skip
      exact RP_w (u_rfl_takeAction_123 v1 m) (sl_w (fun z hz => (UR_s hz UR_0 rfl rfl)) (fun z hz => (UR_s hz UR_0 rfl rfl)))
  · skip
    exact RP_w (u_rfl_takeAction_123 v1 m) (sl_w (fun z hz => (UR_s hz UR_0 rfl rfl)) (fun z hz => (UR_s hz UR_0 rfl rfl)))
theorem u_rfb_takeAction_87 (v1 : Int) (s : Int × mR) : RP (rfb_takeAction_87 v1 s) (sel (fun z : (Int × mR) => UR rF_takeAction rA_takeAction s.2 z.2) (fun z : mR => UR rF_takeAction rA_takeAction s.2 z)) := by
  unfold rfb_takeAction_87
  refine RP_ite (fun h1 => ?_) (fun h1 => ?_)
  · skip
    exact RP_some UR_0
  · skip
    refine RP_ite (fun h2 => ?_) (fun h2 => ?_)
    · skip
      refine RP_bnd (u_rf_takeParameter v1 s.2) (fun y37 h3 => ?_)
      have h4 : UR rF_takeAction rA_takeAction s.2 y37.2 := (UR_s h3 UR_0 rfl rfl)
      exact RP_w (u_rfl_takeAction_103 v1 y37.2) (sl_w (fun z hz => (UR_s hz h4 rfl rfl)) (fun z hz => (UR_s hz h4 rfl rfl)))
    · skip
      exact RP_some UR_0
theorem uw_rfb_takeAction_87 (v1 : Int) (s : Int × mR) : RP (whl (rfb_takeAction_87 v1) s) (fun z : mR => UR rF_takeAction rA_takeAction s.2 z) := RP_whl (I := fun q : Int × mR => UR rF_takeAction rA_takeAction s.2 q.2) (fun q hq => RP_w (u_rfb_takeAction_87 v1 q) (sl_w (fun z hz => (UR_s hz hq rfl rfl)) (fun z hz => (UR_s hz hq rfl rfl)))) UR_0
theorem u_rfl_takeAction_86 (v1 : Int) (u0 : Int) (m : mR) : RP (rfl_takeAction_86 v1 u0 m) (fun z : Int × mR => UR rF_takeAction rA_takeAction m z.2) := by
  unfold rfl_takeAction_86
  refine RP_bnd (uw_rfb_takeAction_87 v1 (u0, m)) (fun e40 h1 => ?_)
  have h2 : UR rF_takeAction rA_takeAction m e40 := (UR_s h1 UR_0 rfl rfl)
  exact RP_w (u_rfl_takeAction_136 v1 e40) (fun z hz => (UR_s hz h2 rfl rfl))
theorem u_rfl_takeAction_85 (v1 : Int) (m : mR) : RP (rfl_takeAction_85 v1 m) (fun z : Int × mR => UR rF_takeAction rA_takeAction m z.2) := by
  unfold rfl_takeAction_85
  exact RP_w (u_rfl_takeAction_86 v1 0 m) (fun z hz => (UR_s hz UR_0 rfl rfl))
theorem u_rfl_takeAction_65 (v1 : Int) (m : mR) : RP (rfl_takeAction_65 v1 m) (fun z : Int × mR => UR rF_takeAction rA_takeAction m z.2) := by
  unfold rfl_takeAction_65
  refine RP_ite (fun h1 => ?_) (fun h1 => ?_)
  · skip
    refine RP_ite (fun h2 => ?_) (fun h2 => ?_)
    · skip
      exact RP_w (u_rfl_takeAction_85 v1 m) (fun z hz => (UR_s hz UR_0 rfl rfl))
    · skip
      exact RP_w (u_rfl_takeAction_86 v1 1 m) (fun z hz => (UR_s hz UR_0 rfl rfl))
  · skip
    exact RP_w (u_rfl_takeAction_85 v1 m) (fun z hz => (UR_s hz UR_0 rfl rfl))
theorem u_rfl_takeAction_16 (u0 : Int) (m : mR) : RP (rfl_takeAction_16 u0 m) (fun z : Int × mR => UR rF_takeAction rA_takeAction m z.2) := by
  unfold rfl_takeAction_16
  refine RP_ite (fun h1 => ?_) (fun h1 => ?_)
  · skip
    exact RP_some UR_0
  · skip
    refine RP_bnd (u_rf_need 40 (mO m [(25, cut ((m.1 25) + 1))] [(46, upI (m.2 46) (m.1 25) 0), (50, upI (m.2 50) (m.1 25) 0), (109, upI (m.2 109) (m.1 25) (m.1 99))])) (fun y46 h2 => ?_)
    have h3 : UR rF_takeAction rA_takeAction m y46.2 := (UR_s h2 (UR_m UR_0 rfl rfl (fun h => h)) rfl rfl)
    exact RP_w (u_rfl_takeAction_65 (m.1 25) y46.2) (fun z hz => (UR_s hz h3 rfl rfl))
theorem u_rfl_takeAction_4 (m : mR) : RP (rfl_takeAction_4 m) (fun z : Int × mR => UR rF_takeAction rA_takeAction m z.2) := by
  unfold rfl_takeAction_4
  refine RP_bnd (u_rf_newName 6 (m.1 25) 16 m) (fun y49 h1 => ?_)
  have h2 : UR rF_takeAction rA_takeAction m y49.2 := (UR_s h1 UR_0 rfl rfl)
  exact RP_w (u_rfl_takeAction_16 y49.1 y49.2) (fun z hz => (UR_s hz h2 rfl rfl))
theorem u_rf_takeAction (m : mR) : RP (rf_takeAction m) (fun z : Int × mR => UR rF_takeAction rA_takeAction m z.2) := by
  unfold rf_takeAction
  refine RP_bnd (u_rf_next m) (fun y52 h1 => ?_)
  have h2 : UR rF_takeAction rA_takeAction m y52.2 := (UR_s h1 UR_0 rfl rfl)
  exact RP_w (u_rfl_takeAction_4 y52.2) (fun z hz => (UR_s hz h2 rfl rfl))
def rF_takeList : List Nat := [7, 8, 9, 10, 11, 12]
def rA_takeList : List Nat := [53, 114, 116]
theorem u_rfl_takeList_183 (m : mR) : RP (rfl_takeList_183 m) (fun z : Int × mR => UR rF_takeList rA_takeList m z.2) := by
  unfold rfl_takeList_183
  refine RP_bnd (u_rf_need 59 m) (fun y4 h1 => ?_)
  have h2 : UR rF_takeList rA_takeList m y4.2 := (UR_s h1 UR_0 rfl rfl)
  exact RP_some h2
theorem u_rfl_takeList_180 (v1 : Int) (v2 : Int) (m : mR) : RP (rfl_takeList_180 v1 v2 m) (sel (fun z : (Int × mR) => UR rF_takeList rA_takeList m z.2) (sel (fun z : (mR) => UR rF_takeList rA_takeList m z) (fun z : mR => UR rF_takeList rA_takeList m z))) := by
  unfold rfl_takeList_180
  exact RP_some UR_0
theorem u_rfl_takeList_171 (v1 : Int) (u0 : Int) (m : mR) : RP (rfl_takeList_171 v1 u0 m) (sel (fun z : (Int × mR) => UR rF_takeList rA_takeList m z.2) (sel (fun z : (mR) => UR rF_takeList rA_takeList m z) (fun z : mR => UR rF_takeList rA_takeList m z))) := by
  unfold rfl_takeList_171
  refine RP_ite (fun h1 => ?_) (fun h1 => ?_)
  · skip
    exact RP_w (u_rfl_takeList_180 v1 u0 m) (sl_w (fun z hz => (UR_s hz UR_0 rfl rfl)) (sl_w (fun z hz => (UR_s hz UR_0 rfl rfl)) (fun z hz => (UR_s hz UR_0 rfl rfl))))
  · skip
    refine RP_bnd (u_rf_next m) (fun y8 h2 => ?_)
    have h3 : UR rF_takeList rA_takeList m y8.2 := (UR_s h2 UR_0 rfl rfl)
    exact RP_w (u_rfl_takeList_180 v1 u0 y8.2) (sl_w (fun z hz => (UR_s hz h3 rfl rfl)) (sl_w (fun z hz => (UR_s hz h3 rfl rfl)) (fun z hz => (UR_s hz h3 rfl rfl))))
theorem u_rfl_takeList_170 (v1 : Int) (m : mR) : RP (rfl_takeList_170 v1 m) (sel (fun z : (Int × mR) => UR rF_takeList rA_takeList m z.2) (sel (fun z : (mR) => UR rF_takeList rA_takeList m z) (fun z : mR => UR rF_takeList rA_takeList m z))) := by
  unfold rfl_takeList_170
  exact RP_w (u_rfl_takeList_171 v1 0 m) (sl_w (fun z hz => (UR_s hz UR_0 rfl rfl)) (sl_w (fun z hz => (UR_s hz UR_0 rfl rfl)) (fun z hz => (UR_s hz UR_0 rfl rfl))))
theorem u_rfl_takeList_106 (v1 : Int) (v4 : Int) (m : mR) : RP (rfl_takeList_106 v1 v4 m) (sel (fun z : (Int × mR) => UR rF_takeList rA_takeList m z.2) (sel (fun z : (mR) => UR rF_takeList rA_takeList m z) (fun z : mR => UR rF_takeList rA_takeList m z))) := by
  unfold rfl_takeList_106
  refine RP_ite (fun h1 => ?_) (fun h1 => ?_)
  · skip
    refine RP_ite (fun h2 => ?_) (fun h2 => ?_)
    · skip
      refine RP_ite (fun h3 => ?_) (fun h3 => ?_)
      · skip
        exact RP_w (u_rfl_takeList_171 v1 1 (mO m [] [(53, upI (m.2 53) v1 (cut (((m.2 53) v1) + 1))), (114, upI (m.2 114) (cut ((cut (8 * v1)) + ((m.2 53) v1))) v4), (116, upI (m.2 116) v4 (nar1 1))])) (sl_w (fun z hz => (UR_s hz (UR_m UR_0 rfl rfl (fun h => h)) rfl rfl)) (sl_w (fun z hz => (UR_s hz (UR_m UR_0 rfl rfl (fun h => h)) rfl rfl)) (fun z hz => (UR_s hz (UR_m UR_0 rfl rfl (fun h => h)) rfl rfl))))
      · skip
        exact RP_w (u_rfl_takeList_170 v1 (mO m [] [(53, upI (m.2 53) v1 (cut (((m.2 53) v1) + 1))), (114, upI (m.2 114) (cut ((cut (8 * v1)) + ((m.2 53) v1))) v4), (116, upI (m.2 116) v4 (nar1 1))])) (sl_w (fun z hz => (UR_s hz (UR_m UR_0 rfl rfl (fun h => h)) rfl rfl)) (sl_w (fun z hz => (UR_s hz (UR_m UR_0 rfl rfl (fun h => h)) rfl rfl)) (fun z hz => (UR_s hz (UR_m UR_0 rfl rfl (fun h => h)) rfl rfl))))
    · skip
      exact RP_w (u_rfl_takeList_170 v1 (mO m [] [(53, upI (m.2 53) v1 (cut (((m.2 53) v1) + 1))), (114, upI (m.2 114) (cut ((cut (8 * v1)) + ((m.2 53) v1))) v4), (116, upI (m.2 116) v4 (nar1 1))])) (sl_w (fun z hz => (UR_s hz (UR_m UR_0 rfl rfl (fun h => h)) rfl rfl)) (sl_w (fun z hz => (UR_s hz (UR_m UR_0 rfl rfl (fun h => h)) rfl rfl)) (fun z hz => (UR_s hz (UR_m UR_0 rfl rfl (fun h => h)) rfl rfl))))
  · skip
    exact RP_some UR_0
theorem u_rfl_takeList_80 (v1 : Int) (v3 : Int) (u0 : Int) (m : mR) : RP (rfl_takeList_80 v1 v3 u0 m) (sel (fun z : (Int × mR) => UR rF_takeList rA_takeList m z.2) (sel (fun z : (mR) => UR rF_takeList rA_takeList m z) (fun z : mR => UR rF_takeList rA_takeList m z))) := by
  unfold rfl_takeList_80
  refine RP_ite (fun h1 => ?_) (fun h1 => ?_)
  · skip
    refine RP_ite (fun h2 => ?_) (fun h2 => ?_)
    · skip
      exact RP_w (u_rfl_takeList_106 v1 u0 m) (sl_w (fun z hz => (UR_s hz UR_0 rfl rfl)) (sl_w (fun z hz => (UR_s hz UR_0 rfl rfl)) (fun z hz => (UR_s hz UR_0 rfl rfl))))
    · skip
      refine RP_bnd (u_rf_wrong 8 v3 m) (fun y16 h3 => ?_)
      have h4 : UR rF_takeList rA_takeList m y16.2 := (UR_s h3 UR_0 rfl rfl)
      exact RP_w (u_rfl_takeList_106 v1 u0 y16.2) (sl_w (fun z hz => (UR_s hz h4 rfl rfl)) (sl_w (fun z hz => (UR_s hz h4 rfl rfl)) (fun z hz => (UR_s hz h4 rfl rfl))))
  · skip
    exact RP_w (u_rfl_takeList_106 v1 u0 m) (sl_w (fun z hz => (UR_s hz UR_0 rfl rfl)) (sl_w (fun z hz => (UR_s hz UR_0 rfl rfl)) (fun z hz => (UR_s hz UR_0 rfl rfl))))
theorem u_rfl_takeList_69 (v1 : Int) (m : mR) : RP (rfl_takeList_69 v1 m) (sel (fun z : (Int × mR) => UR rF_takeList rA_takeList m z.2) (sel (fun z : (mR) => UR rF_takeList rA_takeList m z) (fun z : mR => UR rF_takeList rA_takeList m z))) := by
  unfold rfl_takeList_69
  refine RP_bnd (u_rf_oldName 6 m) (fun y19 h1 => ?_)
  have h2 : UR rF_takeList rA_takeList m y19.2 := (UR_s h1 UR_0 rfl rfl)
  exact RP_w (u_rfl_takeList_80 v1 (m.1 8) y19.1 y19.2) (sl_w (fun z hz => (UR_s hz h2 rfl rfl)) (sl_w (fun z hz => (UR_s hz h2 rfl rfl)) (fun z hz => (UR_s hz h2 rfl rfl))))
theorem u_rfb_takeList_30 (v1 : Int) (s : Int × mR) : RP (rfb_takeList_30 v1 s) (sel (fun z : (Int × mR) => UR rF_takeList rA_takeList s.2 z.2) (sel (fun z : (mR) => UR rF_takeList rA_takeList s.2 z) (fun z : mR => UR rF_takeList rA_takeList s.2 z))) := by
  unfold rfb_takeList_30
  refine RP_ite (fun h1 => ?_) (fun h1 => ?_)
  · skip
    exact RP_some UR_0
  · skip
    refine RP_ite (fun h2 => ?_) (fun h2 => ?_)
    · skip
      refine RP_ite (fun h3 => ?_) (fun h3 => ?_)
      · skip
        refine RP_ite (fun h4 => ?_) (fun h4 => ?_)
        · skip
          refine RP_bnd (u_rf_wrong 4 (s.2.1 8) s.2) (fun y28 h5 => ?_)
          have h6 : UR rF_takeList rA_takeList s.2 y28.2 := (UR_s h5 UR_0 rfl rfl)
          exact RP_w (u_rfl_takeList_69 v1 y28.2) (sl_w (fun z hz => (UR_s hz h6 rfl rfl)) (sl_w (fun z hz => (UR_s hz h6 rfl rfl)) (fun z hz => (UR_s hz h6 rfl rfl))))
        · skip
          exact RP_w (u_rfl_takeList_69 v1 s.2) (sl_w (fun z hz => (UR_s hz UR_0 rfl rfl)) (sl_w (fun z hz => (UR_s hz UR_0 rfl rfl)) (fun z hz => (UR_s hz UR_0 rfl rfl))))
      · skip
        exact RP_w (u_rfl_takeList_69 v1 s.2) (sl_w (fun z hz => (UR_s hz UR_0 rfl rfl)) (sl_w (fun z hz => (UR_s hz UR_0 rfl rfl)) (fun z hz => (UR_s hz UR_0 rfl rfl))))
    · skip
      exact RP_some UR_0
theorem uw_rfb_takeList_30 (v1 : Int) (s : Int × mR) : RP (whl (rfb_takeList_30 v1) s) (sel (fun z : ((mR)) => UR rF_takeList rA_takeList s.2 z) (fun z : mR => UR rF_takeList rA_takeList s.2 z)) := RP_whl (I := fun q : Int × mR => UR rF_takeList rA_takeList s.2 q.2) (fun q hq => RP_w (u_rfb_takeList_30 v1 q) (sl_w (fun z hz => (UR_s hz hq rfl rfl)) (sl_w (fun z hz => (UR_s hz hq rfl rfl)) (fun z hz => (UR_s hz hq rfl rfl))))) UR_0
theorem u_rfl_takeList_28 (v1 : Int) (m : mR) : RP (rfl_takeList_28 v1 m) (fun z : Int × mR => UR rF_takeList rA_takeList m z.2) := by
  unfold rfl_takeList_28
  refine RP_bnd (uw_rfb_takeList_30 v1 (1, m)) (RP_sl (fun e31 h1 => ?_) (fun e34 h3 => ?_))
  · skip
    have h2 : UR rF_takeList rA_takeList m e31 := (UR_s h1 UR_0 rfl rfl)
    exact RP_some h2
  · skip
    have h4 : UR rF_takeList rA_takeList m e34 := (UR_s h3 UR_0 rfl rfl)
    exact RP_w (u_rfl_takeList_183 e34) (fun z hz => (UR_s hz h4 rfl rfl))
theorem u_rfb_takeList_9 (v1 : Int) (s : Int × mR) : RP (rfb_takeList_9 v1 s) (sel (fun z : (Int × mR) => UR rF_takeList rA_takeList s.2 z.2) (fun z : mR => UR rF_takeList rA_takeList s.2 z)) := by
  unfold rfb_takeList_9
  refine RP_ite (fun h1 => ?_) (fun h1 => ?_)
  · skip
    exact RP_some UR_0
  · skip
    exact RP_some (UR_m UR_0 rfl rfl (fun h => h))
theorem uw_rfb_takeList_9 (v1 : Int) (s : Int × mR) : RP (whl (rfb_takeList_9 v1) s) (fun z : mR => UR rF_takeList rA_takeList s.2 z) := RP_whl (I := fun q : Int × mR => UR rF_takeList rA_takeList s.2 q.2) (fun q hq => RP_w (u_rfb_takeList_9 v1 q) (sl_w (fun z hz => (UR_s hz hq rfl rfl)) (fun z hz => (UR_s hz hq rfl rfl)))) UR_0
theorem u_rfl_takeList_7 (v1 : Int) (m : mR) : RP (rfl_takeList_7 v1 m) (fun z : Int × mR => UR rF_takeList rA_takeList m z.2) := by
  unfold rfl_takeList_7
  refine RP_bnd (uw_rfb_takeList_9 v1 (0, m)) (fun e39 h1 => ?_)
  have h2 : UR rF_takeList rA_takeList m e39 := (UR_s h1 UR_0 rfl rfl)
  exact RP_w (u_rfl_takeList_28 v1 e39) (fun z hz => (UR_s hz h2 rfl rfl))
theorem u_rf_takeList (v1 : Int) (m : mR) : RP (rf_takeList v1 m) (fun z : Int × mR => UR rF_takeList rA_takeList m z.2) := by
  unfold rf_takeList
  refine RP_bnd (u_rf_need 315 m) (fun y42 h1 => ?_)
  have h2 : UR rF_takeList rA_takeList m y42.2 := (UR_s h1 UR_0 rfl rfl)
  exact RP_w (u_rfl_takeList_7 v1 y42.2) (fun z hz => (UR_s hz h2 rfl rfl))
def rF_takeElse : List Nat := [7, 8, 9, 10, 11, 12]
def rA_takeElse : List Nat := [57, 115]
theorem u_rfl_takeElse_199 (v1 : Int) (v3 : Int) (m : mR) : RP (rfl_takeElse_199 v1 v3 m) (fun z : Int × mR => UR rF_takeElse rA_takeElse m z.2) := by
  unfold rfl_takeElse_199
  exact RP_some (UR_m UR_0 rfl rfl (fun h => h))
theorem u_rfl_takeElse_193 (v1 : Int) (v3 : Int) (m : mR) : RP (rfl_takeElse_193 v1 v3 m) (fun z : Int × mR => UR rF_takeElse rA_takeElse m z.2) := by
  unfold rfl_takeElse_193
  refine RP_bnd (u_rf_need 59 m) (fun y3 h1 => ?_)
  have h2 : UR rF_takeElse rA_takeElse m y3.2 := (UR_s h1 UR_0 rfl rfl)
  exact RP_w (u_rfl_takeElse_199 v1 v3 y3.2) (fun z hz => (UR_s hz h2 rfl rfl))
theorem u_rfl_takeElse_187 (v1 : Int) (v3 : Int) (m : mR) : RP (rfl_takeElse_187 v1 v3 m) (fun z : Int × mR => UR rF_takeElse rA_takeElse m z.2) := by
  unfold rfl_takeElse_187
  refine RP_bnd (u_rf_need 41 m) (fun y6 h1 => ?_)
  have h2 : UR rF_takeElse rA_takeElse m y6.2 := (UR_s h1 UR_0 rfl rfl)
  exact RP_w (u_rfl_takeElse_193 v1 v3 y6.2) (fun z hz => (UR_s hz h2 rfl rfl))
theorem u_rfl_takeElse_153 (v1 : Int) (v2 : Int) (v3 : Int) (v4 : Int) (m : mR) : RP (rfl_takeElse_153 v1 v2 v3 v4 m) (fun z : Int × mR => UR rF_takeElse rA_takeElse m z.2) := by
  unfold rfl_takeElse_153
  refine RP_ite (fun h1 => ?_) (fun h1 => ?_)
  · skip
    refine RP_ite (fun h2 => ?_) (fun h2 => ?_)
    · skip
      refine RP_ite (fun h3 => ?_) (fun h3 => ?_)
      · skip
        exact RP_w (u_rfl_takeElse_187 v1 v3 m) (fun z hz => (UR_s hz UR_0 rfl rfl))
      · skip
        refine RP_bnd (u_rf_wrong 8 v2 m) (fun y12 h4 => ?_)
        have h5 : UR rF_takeElse rA_takeElse m y12.2 := (UR_s h4 UR_0 rfl rfl)
        exact RP_w (u_rfl_takeElse_187 v1 v3 y12.2) (fun z hz => (UR_s hz h5 rfl rfl))
    · skip
      exact RP_w (u_rfl_takeElse_187 v1 v3 m) (fun z hz => (UR_s hz UR_0 rfl rfl))
  · skip
    exact RP_w (u_rfl_takeElse_187 v1 v3 m) (fun z hz => (UR_s hz UR_0 rfl rfl))
theorem u_rfl_takeElse_150 (v1 : Int) (v2 : Int) (v3 : Int) (v4 : Int) (v5 : Int) (m : mR) : RP (rfl_takeElse_150 v1 v2 v3 v4 v5 m) (sel (fun z : (Int × Int × mR) => UR rF_takeElse rA_takeElse m z.2.2) (fun z : Int × mR => UR rF_takeElse rA_takeElse m z.2)) := by
  unfold rfl_takeElse_150
  exact RP_some UR_0
theorem u_rfl_takeElse_139 (v1 : Int) (v2 : Int) (v3 : Int) (v4 : Int) (u0 : Int) (m : mR) : RP (rfl_takeElse_139 v1 v2 v3 v4 u0 m) (sel (fun z : (Int × Int × mR) => UR rF_takeElse rA_takeElse m z.2.2) (fun z : Int × mR => UR rF_takeElse rA_takeElse m z.2)) := by
  unfold rfl_takeElse_139
  refine RP_ite (fun h1 => ?_) (fun h1 => ?_)
  · skip
    exact RP_w (u_rfl_takeElse_150 v1 v2 v3 v4 u0 m) (sl_w (fun z hz => (UR_s hz UR_0 rfl rfl)) (fun z hz => (UR_s hz UR_0 rfl rfl)))
  · skip
    refine RP_bnd (u_rf_next m) (fun y16 h2 => ?_)
    have h3 : UR rF_takeElse rA_takeElse m y16.2 := (UR_s h2 UR_0 rfl rfl)
    exact RP_w (u_rfl_takeElse_150 v1 v2 v3 v4 u0 y16.2) (sl_w (fun z hz => (UR_s hz h3 rfl rfl)) (fun z hz => (UR_s hz h3 rfl rfl)))
theorem u_rfl_takeElse_138 (v1 : Int) (v2 : Int) (v3 : Int) (v4 : Int) (m : mR) : RP (rfl_takeElse_138 v1 v2 v3 v4 m) (sel (fun z : (Int × Int × mR) => UR rF_takeElse rA_takeElse m z.2.2) (fun z : Int × mR => UR rF_takeElse rA_takeElse m z.2)) := by
  unfold rfl_takeElse_138
  exact RP_w (u_rfl_takeElse_139 v1 v2 v3 v4 0 m) (sl_w (fun z hz => (UR_s hz UR_0 rfl rfl)) (fun z hz => (UR_s hz UR_0 rfl rfl)))
theorem u_rfl_takeElse_115 (v1 : Int) (v2 : Int) (v3 : Int) (v4 : Int) (m : mR) : RP (rfl_takeElse_115 v1 v2 v3 v4 m) (sel (fun z : (Int × Int × mR) => UR rF_takeElse rA_takeElse m z.2.2) (fun z : Int × mR => UR rF_takeElse rA_takeElse m z.2)) := by
  unfold rfl_takeElse_115
  refine RP_ite (fun h1 => ?_) (fun h1 => ?_)
  · skip
    refine RP_ite (fun h2 => ?_) (fun h2 => ?_)
    · skip
      exact RP_w (u_rfl_takeElse_139 v1 v2 v3 (cut (v4 + 1)) 1 m) (sl_w (fun z hz => (UR_s hz UR_0 rfl rfl)) (fun z hz => (UR_s hz UR_0 rfl rfl)))
    · skip
      exact RP_w (u_rfl_takeElse_138 v1 v2 v3 (cut (v4 + 1)) m) (sl_w (fun z hz => (UR_s hz UR_0 rfl rfl)) (fun z hz => (UR_s hz UR_0 rfl rfl)))
  · skip
    exact RP_w (u_rfl_takeElse_138 v1 v2 v3 (cut (v4 + 1)) m) (sl_w (fun z hz => (UR_s hz UR_0 rfl rfl)) (fun z hz => (UR_s hz UR_0 rfl rfl)))
theorem u_rfl_takeElse_94 (v1 : Int) (v2 : Int) (v3 : Int) (v4 : Int) (u0 : Int) (m : mR) : RP (rfl_takeElse_94 v1 v2 v3 v4 u0 m) (sel (fun z : (Int × Int × mR) => UR rF_takeElse rA_takeElse m z.2.2) (fun z : Int × mR => UR rF_takeElse rA_takeElse m z.2)) := by
  unfold rfl_takeElse_94
  refine RP_ite (fun h1 => ?_) (fun h1 => ?_)
  · skip
    exact RP_w (u_rfl_takeElse_115 v1 v2 v3 v4 m) (sl_w (fun z hz => (UR_s hz UR_0 rfl rfl)) (fun z hz => (UR_s hz UR_0 rfl rfl)))
  · skip
    exact RP_w (u_rfl_takeElse_115 v1 v2 v3 v4 (mO m [] [(115, upI (m.2 115) (cut ((cut (4 * v1)) + v4)) u0)])) (sl_w (fun z hz => (UR_s hz (UR_m UR_0 rfl rfl (fun h => h)) rfl rfl)) (fun z hz => (UR_s hz (UR_m UR_0 rfl rfl (fun h => h)) rfl rfl)))
theorem u_rfl_takeElse_91 (v1 : Int) (v2 : Int) (v3 : Int) (v4 : Int) (u1 : Int) (m : mR) : RP (rfl_takeElse_91 v1 v2 v3 v4 u1 m) (sel (fun z : (Int × Int × mR) => UR rF_takeElse rA_takeElse m z.2.2) (fun z : Int × mR => UR rF_takeElse rA_takeElse m z.2)) := by
  unfold rfl_takeElse_91
  refine RP_bnd (u_rf_caseNumber u1 m) (fun y22 h1 => ?_)
  have h2 : UR rF_takeElse rA_takeElse m y22.2 := (UR_s h1 UR_0 rfl rfl)
  exact RP_w (u_rfl_takeElse_94 v1 v2 v3 v4 y22.1 y22.2) (sl_w (fun z hz => (UR_s hz h2 rfl rfl)) (fun z hz => (UR_s hz h2 rfl rfl)))
theorem u_rfb_takeElse_51 (v1 : Int) (v2 : Int) (v3 : Int) (s : Int × Int × mR) : RP (rfb_takeElse_51 v1 v2 v3 s) (sel (fun z : (Int × Int × mR) => UR rF_takeElse rA_takeElse s.2.2 z.2.2) (fun z : Int × mR => UR rF_takeElse rA_takeElse s.2.2 z.2)) := by
  unfold rfb_takeElse_51
  refine RP_ite (fun h1 => ?_) (fun h1 => ?_)
  · skip
    exact RP_some UR_0
  · skip
    refine RP_ite (fun h2 => ?_) (fun h2 => ?_)
    · skip
      refine RP_ite (fun h3 => ?_) (fun h3 => ?_)
      · skip
        exact RP_w (u_rfl_takeElse_91 v1 v2 v3 s.1 64 s.2.2) (sl_w (fun z hz => (UR_s hz UR_0 rfl rfl)) (fun z hz => (UR_s hz UR_0 rfl rfl)))
      · skip
        exact RP_w (u_rfl_takeElse_91 v1 v2 v3 s.1 ((s.2.2.2 49) (cut ((cut (4 * v3)) + s.1))) s.2.2) (sl_w (fun z hz => (UR_s hz UR_0 rfl rfl)) (fun z hz => (UR_s hz UR_0 rfl rfl)))
    · skip
      exact RP_some UR_0
theorem uw_rfb_takeElse_51 (v1 : Int) (v2 : Int) (v3 : Int) (s : Int × Int × mR) : RP (whl (rfb_takeElse_51 v1 v2 v3) s) (fun z : Int × mR => UR rF_takeElse rA_takeElse s.2.2 z.2) := RP_whl (I := fun q : Int × Int × mR => UR rF_takeElse rA_takeElse s.2.2 q.2.2) (fun q hq => RP_w (u_rfb_takeElse_51 v1 v2 v3 q) (sl_w (fun z hz => (UR_s hz hq rfl rfl)) (fun z hz => (UR_s hz hq rfl rfl)))) UR_0
theorem u_rfl_takeElse_49 (v1 : Int) (v2 : Int) (v3 : Int) (v4 : Int) (u0 : Int) (m : mR) : RP (rfl_takeElse_49 v1 v2 v3 v4 u0 m) (fun z : Int × mR => UR rF_takeElse rA_takeElse m z.2) := by
  unfold rfl_takeElse_49
  refine RP_bnd (uw_rfb_takeElse_51 v1 v2 v3 (v4, u0, m)) (fun e30 h1 => ?_)
  have h2 : UR rF_takeElse rA_takeElse m e30.2 := (UR_s h1 UR_0 rfl rfl)
  exact RP_w (u_rfl_takeElse_153 v1 v2 v3 e30.1 e30.2) (fun z hz => (UR_s hz h2 rfl rfl))
theorem u_rfl_takeElse_48 (v1 : Int) (v2 : Int) (v3 : Int) (v4 : Int) (m : mR) : RP (rfl_takeElse_48 v1 v2 v3 v4 m) (fun z : Int × mR => UR rF_takeElse rA_takeElse m z.2) := by
  unfold rfl_takeElse_48
  exact RP_w (u_rfl_takeElse_49 v1 v2 v3 v4 0 m) (fun z hz => (UR_s hz UR_0 rfl rfl))
theorem u_rfl_takeElse_25 (v1 : Int) (v2 : Int) (v3 : Int) (m : mR) : RP (rfl_takeElse_25 v1 v2 v3 m) (fun z : Int × mR => UR rF_takeElse rA_takeElse m z.2) := by
  unfold rfl_takeElse_25
  refine RP_ite (fun h1 => ?_) (fun h1 => ?_)
  · skip
    refine RP_ite (fun h2 => ?_) (fun h2 => ?_)
    · skip
      exact RP_w (u_rfl_takeElse_48 v1 v2 v3 0 m) (fun z hz => (UR_s hz UR_0 rfl rfl))
    · skip
      exact RP_w (u_rfl_takeElse_49 v1 v2 v3 0 1 m) (fun z hz => (UR_s hz UR_0 rfl rfl))
  · skip
    exact RP_w (u_rfl_takeElse_48 v1 v2 v3 0 m) (fun z hz => (UR_s hz UR_0 rfl rfl))
theorem u_rfl_takeElse_18 (v1 : Int) (v2 : Int) (u0 : Int) (m : mR) : RP (rfl_takeElse_18 v1 v2 u0 m) (fun z : Int × mR => UR rF_takeElse rA_takeElse m z.2) := by
  unfold rfl_takeElse_18
  refine RP_bnd (u_rf_need 40 m) (fun y36 h1 => ?_)
  have h2 : UR rF_takeElse rA_takeElse m y36.2 := (UR_s h1 UR_0 rfl rfl)
  exact RP_w (u_rfl_takeElse_25 v1 v2 u0 y36.2) (fun z hz => (UR_s hz h2 rfl rfl))
theorem u_rfl_takeElse_7 (v1 : Int) (m : mR) : RP (rfl_takeElse_7 v1 m) (fun z : Int × mR => UR rF_takeElse rA_takeElse m z.2) := by
  unfold rfl_takeElse_7
  refine RP_bnd (u_rf_oldName 6 m) (fun y39 h1 => ?_)
  have h2 : UR rF_takeElse rA_takeElse m y39.2 := (UR_s h1 UR_0 rfl rfl)
  exact RP_w (u_rfl_takeElse_18 v1 (m.1 8) y39.1 y39.2) (fun z hz => (UR_s hz h2 rfl rfl))
theorem u_rf_takeElse (v1 : Int) (m : mR) : RP (rf_takeElse v1 m) (fun z : Int × mR => UR rF_takeElse rA_takeElse m z.2) := by
  unfold rf_takeElse
  refine RP_bnd (u_rf_need 308 m) (fun y42 h1 => ?_)
  have h2 : UR rF_takeElse rA_takeElse m y42.2 := (UR_s h1 UR_0 rfl rfl)
  exact RP_w (u_rfl_takeElse_7 v1 y42.2) (fun z hz => (UR_s hz h2 rfl rfl))
def rF_takeRoom : List Nat := [7, 8, 9, 10, 11, 12]
def rA_takeRoom : List Nat := [54, 55, 56]
theorem u_rfl_takeRoom_168 (m : mR) : RP (rfl_takeRoom_168 m) (fun z : Int × mR => UR rF_takeRoom rA_takeRoom m z.2) := by
  unfold rfl_takeRoom_168
  refine RP_bnd (u_rf_need 59 m) (fun y1 h1 => ?_)
  have h2 : UR rF_takeRoom rA_takeRoom m y1.2 := (UR_s h1 UR_0 rfl rfl)
  exact RP_some h2
theorem u_rfl_takeRoom_167 (u1 : Int) (u2 : Int) (m : mR) : RP (rfl_takeRoom_167 u1 u2 m) (fun z : Int × mR => UR rF_takeRoom rA_takeRoom m z.2) := by
  unfold rfl_takeRoom_167
  exact RP_w (u_rfl_takeRoom_168 (mO m [] [(56, upI (m.2 56) u1 u2)])) (fun z hz => (UR_s hz (UR_m UR_0 rfl rfl (fun h => h)) rfl rfl))
theorem u_rfl_takeRoom_155 (v1 : Int) (m : mR) : RP (rfl_takeRoom_155 v1 m) (fun z : Int × mR => UR rF_takeRoom rA_takeRoom m z.2) := by
  unfold rfl_takeRoom_155
  refine RP_bnd (u_rf_number 0 8 m) (fun y4 h1 => ?_)
  have h2 : UR rF_takeRoom rA_takeRoom m y4.2 := (UR_s h1 UR_0 rfl rfl)
  exact RP_w (u_rfl_takeRoom_167 v1 y4.1 y4.2) (fun z hz => (UR_s hz h2 rfl rfl))
theorem u_rfl_takeRoom_147 (v1 : Int) (u1 : Int) (u2 : Int) (m : mR) : RP (rfl_takeRoom_147 v1 u1 u2 m) (fun z : Int × mR => UR rF_takeRoom rA_takeRoom m z.2) := by
  unfold rfl_takeRoom_147
  refine RP_bnd (u_rf_need 318 (mO m [] [(55, upI (m.2 55) u1 u2)])) (fun y7 h1 => ?_)
  have h2 : UR rF_takeRoom rA_takeRoom m y7.2 := (UR_s h1 (UR_m UR_0 rfl rfl (fun h => h)) rfl rfl)
  exact RP_w (u_rfl_takeRoom_155 v1 y7.2) (fun z hz => (UR_s hz h2 rfl rfl))
theorem u_rfl_takeRoom_136 (v1 : Int) (m : mR) : RP (rfl_takeRoom_136 v1 m) (fun z : Int × mR => UR rF_takeRoom rA_takeRoom m z.2) := by
  unfold rfl_takeRoom_136
  refine RP_bnd (u_rf_number 1 4 m) (fun y10 h1 => ?_)
  have h2 : UR rF_takeRoom rA_takeRoom m y10.2 := (UR_s h1 UR_0 rfl rfl)
  exact RP_w (u_rfl_takeRoom_147 v1 v1 y10.1 y10.2) (fun z hz => (UR_s hz h2 rfl rfl))
theorem u_rfl_takeRoom_105 (v1 : Int) (u1 : Int) (u2 : Int) (m : mR) : RP (rfl_takeRoom_105 v1 u1 u2 m) (fun z : Int × mR => UR rF_takeRoom rA_takeRoom m z.2) := by
  unfold rfl_takeRoom_105
  refine RP_ite (fun h1 => ?_) (fun h1 => ?_)
  · skip
    exact RP_w (u_rfl_takeRoom_168 (mO m [] [(54, upI (m.2 54) u1 u2), (55, upI (m.2 55) v1 0), (56, upI (m.2 56) v1 0)])) (fun z hz => (UR_s hz (UR_m UR_0 rfl rfl (fun h => h)) rfl rfl))
  · skip
    refine RP_bnd (u_rf_need 317 (mO m [] [(54, upI (m.2 54) u1 u2), (55, upI (m.2 55) v1 0), (56, upI (m.2 56) v1 0)])) (fun y14 h2 => ?_)
    have h3 : UR rF_takeRoom rA_takeRoom m y14.2 := (UR_s h2 (UR_m UR_0 rfl rfl (fun h => h)) rfl rfl)
    exact RP_w (u_rfl_takeRoom_136 v1 y14.2) (fun z hz => (UR_s hz h3 rfl rfl))
theorem u_rfl_takeRoom_93 (v1 : Int) (m : mR) : RP (rfl_takeRoom_93 v1 m) (fun z : Int × mR => UR rF_takeRoom rA_takeRoom m z.2) := by
  unfold rfl_takeRoom_93
  refine RP_bnd (u_rf_number 1 32 m) (fun y17 h1 => ?_)
  have h2 : UR rF_takeRoom rA_takeRoom m y17.2 := (UR_s h1 UR_0 rfl rfl)
  exact RP_w (u_rfl_takeRoom_105 v1 v1 y17.1 y17.2) (fun z hz => (UR_s hz h2 rfl rfl))
theorem u_rfl_takeRoom_7 (v1 : Int) (m : mR) : RP (rfl_takeRoom_7 v1 m) (fun z : Int × mR => UR rF_takeRoom rA_takeRoom m z.2) := by
  unfold rfl_takeRoom_7
  refine RP_ite (fun h1 => ?_) (fun h1 => ?_)
  · skip
    refine RP_ite (fun h2 => ?_) (fun h2 => ?_)
    · skip
      exact RP_w (u_rfl_takeRoom_93 v1 m) (fun z hz => (UR_s hz UR_0 rfl rfl))
    · skip
      refine RP_ite (fun h3 => ?_) (fun h3 => ?_)
      · skip
        refine RP_ite (fun h4 => ?_) (fun h4 => ?_)
        · skip
          exact RP_w (u_rfl_takeRoom_93 v1 m) (fun z hz => (UR_s hz UR_0 rfl rfl))
        · skip
          refine RP_ite (fun h5 => ?_) (fun h5 => ?_)
          · skip
            exact RP_w (u_rfl_takeRoom_93 v1 m) (fun z hz => (UR_s hz UR_0 rfl rfl))
          · skip
            refine RP_ite (fun h6 => ?_) (fun h6 => ?_)
            · skip
              exact RP_w (u_rfl_takeRoom_93 v1 m) (fun z hz => (UR_s hz UR_0 rfl rfl))
            · skip
              refine RP_ite (fun h7 => ?_) (fun h7 => ?_)
              · skip
                exact RP_w (u_rfl_takeRoom_93 v1 m) (fun z hz => (UR_s hz UR_0 rfl rfl))
              · skip
                refine RP_ite (fun h8 => ?_) (fun h8 => ?_)
                · skip
                  exact RP_w (u_rfl_takeRoom_93 v1 m) (fun z hz => (UR_s hz UR_0 rfl rfl))
                · skip
                  refine RP_bnd (u_rf_wrong 5 (m.1 8) m) (fun y28 h9 => ?_)
                  have h10 : UR rF_takeRoom rA_takeRoom m y28.2 := (UR_s h9 UR_0 rfl rfl)
                  exact RP_w (u_rfl_takeRoom_93 v1 y28.2) (fun z hz => (UR_s hz h10 rfl rfl))
      · skip
        exact RP_w (u_rfl_takeRoom_93 v1 m) (fun z hz => (UR_s hz UR_0 rfl rfl))
  · skip
    exact RP_w (u_rfl_takeRoom_93 v1 m) (fun z hz => (UR_s hz UR_0 rfl rfl))
theorem u_rf_takeRoom (v1 : Int) (m : mR) : RP (rf_takeRoom v1 m) (fun z : Int × mR => UR rF_takeRoom rA_takeRoom m z.2) := by
  unfold rf_takeRoom
  refine RP_bnd (u_rf_need 316 m) (fun y31 h1 => ?_)
  have h2 : UR rF_takeRoom rA_takeRoom m y31.2 := (UR_s h1 UR_0 rfl rfl)
  exact RP_w (u_rfl_takeRoom_7 v1 y31.2) (fun z hz => (UR_s hz h2 rfl rfl))
def rF_takeTable : List Nat := [7, 8, 9, 10, 11, 12, 13, 26, 28, 69, 70, 71, 72, 73, 74, 75]
def rA_takeTable : List Nat := [14, 15, 16, 17, 51, 52, 53, 54, 55, 56, 57, 58, 59, 65, 66, 67, 68, 76, 77, 78, 79, 80, 81, 82, 83, 84, 85, 86, 87, 88, 89, 90, 91, 92, 110, 111, 112, 113, 114, 115, 116]
theorem u_rfl_takeTable_418 (m : mR) : RP (rfl_takeTable_418 m) (fun z : Int × mR => UR rF_takeTable rA_takeTable m z.2) := by
  unfold rfl_takeTable_418
  refine RP_bnd (u_rf_need 125 m) (fun y5 h1 => ?_)
  have h2 : UR rF_takeTable rA_takeTable m y5.2 := (UR_s h1 UR_0 rfl rfl)
  exact RP_some h2
theorem u_rfl_takeTable_413 (v1 : Int) (m : mR) : RP (rfl_takeTable_413 v1 m) (fun z : Int × mR => UR rF_takeTable rA_takeTable m z.2) := by
  unfold rfl_takeTable_413
  refine RP_bnd (u_rf_takeRoom v1 m) (fun y8 h1 => ?_)
  have h2 : UR rF_takeTable rA_takeTable m y8.2 := (UR_s h1 UR_0 rfl rfl)
  exact RP_w (u_rfl_takeTable_418 y8.2) (fun z hz => (UR_s hz h2 rfl rfl))
theorem u_rfl_takeTable_408 (v1 : Int) (m : mR) : RP (rfl_takeTable_408 v1 m) (fun z : Int × mR => UR rF_takeTable rA_takeTable m z.2) := by
  unfold rfl_takeTable_408
  refine RP_bnd (u_rf_takeElse v1 m) (fun y11 h1 => ?_)
  have h2 : UR rF_takeTable rA_takeTable m y11.2 := (UR_s h1 UR_0 rfl rfl)
  exact RP_w (u_rfl_takeTable_413 v1 y11.2) (fun z hz => (UR_s hz h2 rfl rfl))
theorem u_rfl_takeTable_402 (v1 : Int) (u1 : Int) (u2 : Int) (m : mR) : RP (rfl_takeTable_402 v1 u1 u2 m) (fun z : Int × mR => UR rF_takeTable rA_takeTable m z.2) := by
  unfold rfl_takeTable_402
  refine RP_bnd (u_rf_takeList v1 (mO m [] [(58, upI (m.2 58) u1 (nar1 u2))])) (fun y14 h1 => ?_)
  have h2 : UR rF_takeTable rA_takeTable m y14.2 := (UR_s h1 (UR_m UR_0 rfl rfl (fun h => h)) rfl rfl)
  exact RP_w (u_rfl_takeTable_408 v1 y14.2) (fun z hz => (UR_s hz h2 rfl rfl))
theorem u_rfl_takeTable_401 (v1 : Int) (u1 : Int) (m : mR) : RP (rfl_takeTable_401 v1 u1 m) (fun z : Int × mR => UR rF_takeTable rA_takeTable m z.2) := by
  unfold rfl_takeTable_401
  exact RP_w (u_rfl_takeTable_402 v1 u1 0 m) (fun z hz => (UR_s hz UR_0 rfl rfl))
theorem u_rfl_takeTable_384 (v1 : Int) (v2 : Int) (v3 : Int) (m : mR) : RP (rfl_takeTable_384 v1 v2 v3 m) (fun z : Int × mR => UR rF_takeTable rA_takeTable m z.2) := by
  unfold rfl_takeTable_384
  refine RP_ite (fun h1 => ?_) (fun h1 => ?_)
  · skip
    refine RP_ite (fun h2 => ?_) (fun h2 => ?_)
    · skip
      exact RP_w (u_rfl_takeTable_402 v1 v1 1 m) (fun z hz => (UR_s hz UR_0 rfl rfl))
    · skip
      exact RP_w (u_rfl_takeTable_401 v1 v1 m) (fun z hz => (UR_s hz UR_0 rfl rfl))
  · skip
    exact RP_w (u_rfl_takeTable_401 v1 v1 m) (fun z hz => (UR_s hz UR_0 rfl rfl))
theorem u_rfl_takeTable_360 (v1 : Int) (v2 : Int) (v3 : Int) (v5 : Int) (m : mR) : RP (rfl_takeTable_360 v1 v2 v3 v5 m) (sel (fun z : (Int × Int × mR) => UR rF_takeTable rA_takeTable m z.2.2) (sel (fun z : (mR) => UR rF_takeTable rA_takeTable m z) (fun z : Int × Int × mR => UR rF_takeTable rA_takeTable m z.2.2))) := by
  unfold rfl_takeTable_360
  exact RP_some (UR_m UR_0 rfl rfl (fun h => h))
theorem u_rfl_takeTable_353 (v1 : Int) (v2 : Int) (v5 : Int) (u0 : Int) (m : mR) : RP (rfl_takeTable_353 v1 v2 v5 u0 m) (sel (fun z : (Int × Int × mR) => UR rF_takeTable rA_takeTable m z.2.2) (sel (fun z : (mR) => UR rF_takeTable rA_takeTable m z) (fun z : Int × Int × mR => UR rF_takeTable rA_takeTable m z.2.2))) := by
  unfold rfl_takeTable_353
  refine RP_bnd (u_rf_need 59 m) (fun y19 h1 => ?_)
  have h2 : UR rF_takeTable rA_takeTable m y19.2 := (UR_s h1 UR_0 rfl rfl)
  exact RP_w (u_rfl_takeTable_360 v1 v2 u0 v5 y19.2) (sl_w (fun z hz => (UR_s hz h2 rfl rfl)) (sl_w (fun z hz => (UR_s hz h2 rfl rfl)) (fun z hz => (UR_s hz h2 rfl rfl))))
theorem u_rfl_takeTable_348 (v1 : Int) (v2 : Int) (v5 : Int) (m : mR) : RP (rfl_takeTable_348 v1 v2 v5 m) (sel (fun z : (Int × Int × mR) => UR rF_takeTable rA_takeTable m z.2.2) (sel (fun z : (mR) => UR rF_takeTable rA_takeTable m z) (fun z : Int × Int × mR => UR rF_takeTable rA_takeTable m z.2.2))) := by
  unfold rfl_takeTable_348
  exact RP_w (u_rfl_takeTable_353 v1 v2 v5 1 m) (sl_w (fun z hz => (UR_s hz UR_0 rfl rfl)) (sl_w (fun z hz => (UR_s hz UR_0 rfl rfl)) (fun z hz => (UR_s hz UR_0 rfl rfl))))
theorem u_rfl_takeTable_335 (v1 : Int) (v3 : Int) (v5 : Int) (v7 : Int) (u0 : Int) (m : mR) : RP (rfl_takeTable_335 v1 v3 v5 v7 u0 m) (sel (fun z : (Int × Int × mR) => UR rF_takeTable rA_takeTable m z.2.2) (sel (fun z : (mR) => UR rF_takeTable rA_takeTable m z) (fun z : Int × Int × mR => UR rF_takeTable rA_takeTable m z.2.2))) := by
  unfold rfl_takeTable_335
  refine RP_ite (fun h1 => ?_) (fun h1 => ?_)
  · skip
    refine RP_ite (fun h2 => ?_) (fun h2 => ?_)
    · skip
      exact RP_w (u_rfl_takeTable_348 v1 u0 v5 m) (sl_w (fun z hz => (UR_s hz UR_0 rfl rfl)) (sl_w (fun z hz => (UR_s hz UR_0 rfl rfl)) (fun z hz => (UR_s hz UR_0 rfl rfl))))
    · skip
      exact RP_w (u_rfl_takeTable_353 v1 u0 v5 0 m) (sl_w (fun z hz => (UR_s hz UR_0 rfl rfl)) (sl_w (fun z hz => (UR_s hz UR_0 rfl rfl)) (fun z hz => (UR_s hz UR_0 rfl rfl))))
  · skip
    exact RP_w (u_rfl_takeTable_348 v1 u0 v5 m) (sl_w (fun z hz => (UR_s hz UR_0 rfl rfl)) (sl_w (fun z hz => (UR_s hz UR_0 rfl rfl)) (fun z hz => (UR_s hz UR_0 rfl rfl))))
theorem u_rfl_takeTable_330 (v1 : Int) (v3 : Int) (v5 : Int) (v7 : Int) (m : mR) : RP (rfl_takeTable_330 v1 v3 v5 v7 m) (sel (fun z : (Int × Int × mR) => UR rF_takeTable rA_takeTable m z.2.2) (sel (fun z : (mR) => UR rF_takeTable rA_takeTable m z) (fun z : Int × Int × mR => UR rF_takeTable rA_takeTable m z.2.2))) := by
  unfold rfl_takeTable_330
  exact RP_w (u_rfl_takeTable_335 v1 v3 v5 v7 1 m) (sl_w (fun z hz => (UR_s hz UR_0 rfl rfl)) (sl_w (fun z hz => (UR_s hz UR_0 rfl rfl)) (fun z hz => (UR_s hz UR_0 rfl rfl))))
theorem u_rfl_takeTable_309 (v1 : Int) (v2 : Int) (v3 : Int) (v4 : Int) (v5 : Int) (v7 : Int) (m : mR) : RP (rfl_takeTable_309 v1 v2 v3 v4 v5 v7 m) (sel (fun z : (Int × Int × mR) => UR rF_takeTable rA_takeTable m z.2.2) (sel (fun z : (mR) => UR rF_takeTable rA_takeTable m z) (fun z : Int × Int × mR => UR rF_takeTable rA_takeTable m z.2.2))) := by
  unfold rfl_takeTable_309
  refine RP_ite (fun h1 => ?_) (fun h1 => ?_)
  · skip
    refine RP_ite (fun h2 => ?_) (fun h2 => ?_)
    · skip
      exact RP_w (u_rfl_takeTable_330 v1 v3 v5 v7 (mO m [] [(113, upI (m.2 113) v4 v7)])) (sl_w (fun z hz => (UR_s hz (UR_m UR_0 rfl rfl (fun h => h)) rfl rfl)) (sl_w (fun z hz => (UR_s hz (UR_m UR_0 rfl rfl (fun h => h)) rfl rfl)) (fun z hz => (UR_s hz (UR_m UR_0 rfl rfl (fun h => h)) rfl rfl))))
    · skip
      exact RP_w (u_rfl_takeTable_335 v1 v3 v5 v7 0 (mO m [] [(113, upI (m.2 113) v4 v7)])) (sl_w (fun z hz => (UR_s hz (UR_m UR_0 rfl rfl (fun h => h)) rfl rfl)) (sl_w (fun z hz => (UR_s hz (UR_m UR_0 rfl rfl (fun h => h)) rfl rfl)) (fun z hz => (UR_s hz (UR_m UR_0 rfl rfl (fun h => h)) rfl rfl))))
  · skip
    exact RP_w (u_rfl_takeTable_330 v1 v3 v5 v7 (mO m [] [(113, upI (m.2 113) v4 v7)])) (sl_w (fun z hz => (UR_s hz (UR_m UR_0 rfl rfl (fun h => h)) rfl rfl)) (sl_w (fun z hz => (UR_s hz (UR_m UR_0 rfl rfl (fun h => h)) rfl rfl)) (fun z hz => (UR_s hz (UR_m UR_0 rfl rfl (fun h => h)) rfl rfl))))
theorem u_rfl_takeTable_301 (v1 : Int) (v2 : Int) (v3 : Int) (v4 : Int) (v5 : Int) (v6 : Int) (v7 : Int) (m : mR) : RP (rfl_takeTable_301 v1 v2 v3 v4 v5 v6 v7 m) (sel (fun z : (Int × Int × mR) => UR rF_takeTable rA_takeTable m z.2.2) (sel (fun z : (mR) => UR rF_takeTable rA_takeTable m z) (fun z : Int × Int × mR => UR rF_takeTable rA_takeTable m z.2.2))) := by
  unfold rfl_takeTable_301
  refine RP_bnd (u_rf_wrong 8 v6 m) (fun y26 h1 => ?_)
  have h2 : UR rF_takeTable rA_takeTable m y26.2 := (UR_s h1 UR_0 rfl rfl)
  exact RP_w (u_rfl_takeTable_309 v1 v2 v3 v4 v5 v7 y26.2) (sl_w (fun z hz => (UR_s hz h2 rfl rfl)) (sl_w (fun z hz => (UR_s hz h2 rfl rfl)) (fun z hz => (UR_s hz h2 rfl rfl))))
theorem u_rfl_takeTable_289 (v1 : Int) (v2 : Int) (v3 : Int) (v4 : Int) (v5 : Int) (v6 : Int) (v7 : Int) (m : mR) : RP (rfl_takeTable_289 v1 v2 v3 v4 v5 v6 v7 m) (sel (fun z : (Int × Int × mR) => UR rF_takeTable rA_takeTable m z.2.2) (sel (fun z : (mR) => UR rF_takeTable rA_takeTable m z) (fun z : Int × Int × mR => UR rF_takeTable rA_takeTable m z.2.2))) := by
  unfold rfl_takeTable_289
  refine RP_ite (fun h1 => ?_) (fun h1 => ?_)
  · skip
    refine RP_ite (fun h2 => ?_) (fun h2 => ?_)
    · skip
      exact RP_w (u_rfl_takeTable_309 v1 v2 v3 v4 v5 v7 m) (sl_w (fun z hz => (UR_s hz UR_0 rfl rfl)) (sl_w (fun z hz => (UR_s hz UR_0 rfl rfl)) (fun z hz => (UR_s hz UR_0 rfl rfl))))
    · skip
      exact RP_w (u_rfl_takeTable_301 v1 v2 v3 v4 v5 v6 v7 m) (sl_w (fun z hz => (UR_s hz UR_0 rfl rfl)) (sl_w (fun z hz => (UR_s hz UR_0 rfl rfl)) (fun z hz => (UR_s hz UR_0 rfl rfl))))
  · skip
    exact RP_w (u_rfl_takeTable_309 v1 v2 v3 v4 v5 v7 m) (sl_w (fun z hz => (UR_s hz UR_0 rfl rfl)) (sl_w (fun z hz => (UR_s hz UR_0 rfl rfl)) (fun z hz => (UR_s hz UR_0 rfl rfl))))
theorem u_rfl_takeTable_266 (v1 : Int) (v2 : Int) (v3 : Int) (v4 : Int) (v5 : Int) (v6 : Int) (v7 : Int) (m : mR) : RP (rfl_takeTable_266 v1 v2 v3 v4 v5 v6 v7 m) (sel (fun z : (Int × Int × mR) => UR rF_takeTable rA_takeTable m z.2.2) (sel (fun z : (mR) => UR rF_takeTable rA_takeTable m z) (fun z : Int × Int × mR => UR rF_takeTable rA_takeTable m z.2.2))) := by
  unfold rfl_takeTable_266
  refine RP_ite (fun h1 => ?_) (fun h1 => ?_)
  · skip
    refine RP_ite (fun h2 => ?_) (fun h2 => ?_)
    · skip
      refine RP_ite (fun h3 => ?_) (fun h3 => ?_)
      · skip
        refine RP_ite (fun h4 => ?_) (fun h4 => ?_)
        · skip
          exact RP_w (u_rfl_takeTable_289 v1 v2 v3 v4 v5 v6 v7 m) (sl_w (fun z hz => (UR_s hz UR_0 rfl rfl)) (sl_w (fun z hz => (UR_s hz UR_0 rfl rfl)) (fun z hz => (UR_s hz UR_0 rfl rfl))))
        · skip
          exact RP_w (u_rfl_takeTable_301 v1 v2 v3 v4 v5 v6 v7 m) (sl_w (fun z hz => (UR_s hz UR_0 rfl rfl)) (sl_w (fun z hz => (UR_s hz UR_0 rfl rfl)) (fun z hz => (UR_s hz UR_0 rfl rfl))))
      · skip
        exact RP_w (u_rfl_takeTable_301 v1 v2 v3 v4 v5 v6 v7 m) (sl_w (fun z hz => (UR_s hz UR_0 rfl rfl)) (sl_w (fun z hz => (UR_s hz UR_0 rfl rfl)) (fun z hz => (UR_s hz UR_0 rfl rfl))))
    · skip
      exact RP_w (u_rfl_takeTable_289 v1 v2 v3 v4 v5 v6 v7 m) (sl_w (fun z hz => (UR_s hz UR_0 rfl rfl)) (sl_w (fun z hz => (UR_s hz UR_0 rfl rfl)) (fun z hz => (UR_s hz UR_0 rfl rfl))))
  · skip
    exact RP_w (u_rfl_takeTable_309 v1 v2 v3 v4 v5 v7 m) (sl_w (fun z hz => (UR_s hz UR_0 rfl rfl)) (sl_w (fun z hz => (UR_s hz UR_0 rfl rfl)) (fun z hz => (UR_s hz UR_0 rfl rfl))))
theorem u_rfl_takeTable_262 (v1 : Int) (v2 : Int) (v3 : Int) (v4 : Int) (v5 : Int) (v6 : Int) (v7 : Int) (m : mR) : RP (rfl_takeTable_262 v1 v2 v3 v4 v5 v6 v7 m) (sel (fun z : (Int × Int × mR) => UR rF_takeTable rA_takeTable m z.2.2) (sel (fun z : (mR) => UR rF_takeTable rA_takeTable m z) (fun z : Int × Int × mR => UR rF_takeTable rA_takeTable m z.2.2))) := by
  unfold rfl_takeTable_262
  refine RP_bnd (u_rf_next m) (fun y35 h1 => ?_)
  have h2 : UR rF_takeTable rA_takeTable m y35.2 := (UR_s h1 UR_0 rfl rfl)
  exact RP_w (u_rfl_takeTable_266 v1 v2 v3 v4 v5 v6 v7 y35.2) (sl_w (fun z hz => (UR_s hz h2 rfl rfl)) (sl_w (fun z hz => (UR_s hz h2 rfl rfl)) (fun z hz => (UR_s hz h2 rfl rfl))))
theorem u_rfl_takeTable_215 (v1 : Int) (v2 : Int) (v3 : Int) (v4 : Int) (v5 : Int) (m : mR) : RP (rfl_takeTable_215 v1 v2 v3 v4 v5 m) (sel (fun z : (Int × Int × mR) => UR rF_takeTable rA_takeTable m z.2.2) (sel (fun z : (mR) => UR rF_takeTable rA_takeTable m z) (fun z : Int × Int × mR => UR rF_takeTable rA_takeTable m z.2.2))) := by
  unfold rfl_takeTable_215
  refine RP_ite (fun h1 => ?_) (fun h1 => ?_)
  · skip
    refine RP_ite (fun h2 => ?_) (fun h2 => ?_)
    · skip
      exact RP_w (u_rfl_takeTable_262 v1 v2 v3 v4 v5 (m.1 8) (m.1 7) m) (sl_w (fun z hz => (UR_s hz UR_0 rfl rfl)) (sl_w (fun z hz => (UR_s hz UR_0 rfl rfl)) (fun z hz => (UR_s hz UR_0 rfl rfl))))
    · skip
      refine RP_ite (fun h3 => ?_) (fun h3 => ?_)
      · skip
        exact RP_w (u_rfl_takeTable_262 v1 v2 v3 v4 v5 (m.1 8) (m.1 7) m) (sl_w (fun z hz => (UR_s hz UR_0 rfl rfl)) (sl_w (fun z hz => (UR_s hz UR_0 rfl rfl)) (fun z hz => (UR_s hz UR_0 rfl rfl))))
      · skip
        refine RP_ite (fun h4 => ?_) (fun h4 => ?_)
        · skip
          exact RP_w (u_rfl_takeTable_262 v1 v2 v3 v4 v5 (m.1 8) (m.1 7) m) (sl_w (fun z hz => (UR_s hz UR_0 rfl rfl)) (sl_w (fun z hz => (UR_s hz UR_0 rfl rfl)) (fun z hz => (UR_s hz UR_0 rfl rfl))))
        · skip
          refine RP_bnd (u_rf_bad m) (fun y42 h5 => ?_)
          have h6 : UR rF_takeTable rA_takeTable m y42.2 := (UR_s h5 UR_0 rfl rfl)
          exact RP_w (u_rfl_takeTable_262 v1 v2 v3 v4 v5 (m.1 8) (m.1 7) y42.2) (sl_w (fun z hz => (UR_s hz h6 rfl rfl)) (sl_w (fun z hz => (UR_s hz h6 rfl rfl)) (fun z hz => (UR_s hz h6 rfl rfl))))
  · skip
    exact RP_w (u_rfl_takeTable_262 v1 v2 v3 v4 v5 (m.1 8) (m.1 7) m) (sl_w (fun z hz => (UR_s hz UR_0 rfl rfl)) (sl_w (fun z hz => (UR_s hz UR_0 rfl rfl)) (fun z hz => (UR_s hz UR_0 rfl rfl))))
theorem u_rfl_takeTable_183 (v1 : Int) (v2 : Int) (v3 : Int) (v4 : Int) (m : mR) : RP (rfl_takeTable_183 v1 v2 v3 v4 m) (sel (fun z : (Int × Int × mR) => UR rF_takeTable rA_takeTable m z.2.2) (sel (fun z : (mR) => UR rF_takeTable rA_takeTable m z) (fun z : Int × Int × mR => UR rF_takeTable rA_takeTable m z.2.2))) := by
  unfold rfl_takeTable_183
  refine RP_bnd (u_rf_need 58 (mO m [] [(111, upI (m.2 111) v4 (m.1 28)), (112, upI (m.2 112) v4 (m.1 69))])) (fun y45 h1 => ?_)
  have h2 : UR rF_takeTable rA_takeTable m y45.2 := (UR_s h1 (UR_m UR_0 rfl rfl (fun h => h)) rfl rfl)
  exact RP_w (u_rfl_takeTable_215 v1 v2 v3 v4 (m.1 69) y45.2) (sl_w (fun z hz => (UR_s hz h2 rfl rfl)) (sl_w (fun z hz => (UR_s hz h2 rfl rfl)) (fun z hz => (UR_s hz h2 rfl rfl))))
theorem u_rfl_takeTable_161 (v1 : Int) (v2 : Int) (v3 : Int) (v4 : Int) (m : mR) : RP (rfl_takeTable_161 v1 v2 v3 v4 m) (sel (fun z : (Int × Int × mR) => UR rF_takeTable rA_takeTable m z.2.2) (sel (fun z : (mR) => UR rF_takeTable rA_takeTable m z) (fun z : Int × Int × mR => UR rF_takeTable rA_takeTable m z.2.2))) := by
  unfold rfl_takeTable_161
  refine RP_ite (fun h1 => ?_) (fun h1 => ?_)
  · skip
    refine RP_bnd (u_rf_readExpr (mO m [] [(110, upI (m.2 110) v4 (m.1 28))])) (fun y49 h2 => ?_)
    have h3 : UR rF_takeTable rA_takeTable m y49.2 := (UR_s h2 (UR_m UR_0 rfl rfl (fun h => h)) rfl rfl)
    exact RP_w (u_rfl_takeTable_183 v1 v2 v3 v4 y49.2) (sl_w (fun z hz => (UR_s hz h3 rfl rfl)) (sl_w (fun z hz => (UR_s hz h3 rfl rfl)) (fun z hz => (UR_s hz h3 rfl rfl))))
  · skip
    exact RP_w (u_rfl_takeTable_183 v1 v2 v3 v4 (mO m [] [(110, upI (m.2 110) v4 (m.1 28))])) (sl_w (fun z hz => (UR_s hz (UR_m UR_0 rfl rfl (fun h => h)) rfl rfl)) (sl_w (fun z hz => (UR_s hz (UR_m UR_0 rfl rfl (fun h => h)) rfl rfl)) (fun z hz => (UR_s hz (UR_m UR_0 rfl rfl (fun h => h)) rfl rfl))))
theorem u_rfl_takeTable_137 (v1 : Int) (v2 : Int) (v3 : Int) (m : mR) : RP (rfl_takeTable_137 v1 v2 v3 m) (sel (fun z : (Int × Int × mR) => UR rF_takeTable rA_takeTable m z.2.2) (sel (fun z : (mR) => UR rF_takeTable rA_takeTable m z) (fun z : Int × Int × mR => UR rF_takeTable rA_takeTable m z.2.2))) := by
  unfold rfl_takeTable_137
  refine RP_ite (fun h1 => ?_) (fun h1 => ?_)
  · skip
    refine RP_bnd (u_rf_next m) (fun y53 h2 => ?_)
    have h3 : UR rF_takeTable rA_takeTable m y53.2 := (UR_s h2 UR_0 rfl rfl)
    exact RP_w (u_rfl_takeTable_161 v1 v2 v3 (cut ((cut (4 * v1)) + ((m.2 51) v1))) y53.2) (sl_w (fun z hz => (UR_s hz h3 rfl rfl)) (sl_w (fun z hz => (UR_s hz h3 rfl rfl)) (fun z hz => (UR_s hz h3 rfl rfl))))
  · skip
    exact RP_some UR_0
theorem u_rfb_takeTable_101 (v1 : Int) (s : Int × Int × mR) : RP (rfb_takeTable_101 v1 s) (sel (fun z : (Int × Int × mR) => UR rF_takeTable rA_takeTable s.2.2 z.2.2) (sel (fun z : (mR) => UR rF_takeTable rA_takeTable s.2.2 z) (fun z : Int × Int × mR => UR rF_takeTable rA_takeTable s.2.2 z.2.2))) := by
  unfold rfb_takeTable_101
  refine RP_ite (fun h1 => ?_) (fun h1 => ?_)
  · skip
    refine RP_ite (fun h2 => ?_) (fun h2 => ?_)
    · skip
      refine RP_ite (fun h3 => ?_) (fun h3 => ?_)
      · skip
        refine RP_bnd (u_rf_wrong 4 (s.2.2.1 8) s.2.2) (fun y63 h4 => ?_)
        have h5 : UR rF_takeTable rA_takeTable s.2.2 y63.2 := (UR_s h4 UR_0 rfl rfl)
        exact RP_w (u_rfl_takeTable_137 v1 s.1 s.2.1 y63.2) (sl_w (fun z hz => (UR_s hz h5 rfl rfl)) (sl_w (fun z hz => (UR_s hz h5 rfl rfl)) (fun z hz => (UR_s hz h5 rfl rfl))))
      · skip
        exact RP_w (u_rfl_takeTable_137 v1 s.1 s.2.1 s.2.2) (sl_w (fun z hz => (UR_s hz UR_0 rfl rfl)) (sl_w (fun z hz => (UR_s hz UR_0 rfl rfl)) (fun z hz => (UR_s hz UR_0 rfl rfl))))
    · skip
      exact RP_some UR_0
  · skip
    exact RP_some UR_0
theorem uw_rfb_takeTable_101 (v1 : Int) (s : Int × Int × mR) : RP (whl (rfb_takeTable_101 v1) s) (sel (fun z : ((mR)) => UR rF_takeTable rA_takeTable s.2.2 z) (fun z : Int × Int × mR => UR rF_takeTable rA_takeTable s.2.2 z.2.2)) := RP_whl (I := fun q : Int × Int × mR => UR rF_takeTable rA_takeTable s.2.2 q.2.2) (fun q hq => RP_w (u_rfb_takeTable_101 v1 q) (sl_w (fun z hz => (UR_s hz hq rfl rfl)) (sl_w (fun z hz => (UR_s hz hq rfl rfl)) (fun z hz => (UR_s hz hq rfl rfl))))) UR_0
theorem u_rfl_takeTable_76 (v1 : Int) (m : mR) : RP (rfl_takeTable_76 v1 m) (fun z : Int × mR => UR rF_takeTable rA_takeTable m z.2) := by
  unfold rfl_takeTable_76
  refine RP_ite (fun h1 => ?_) (fun h1 => ?_)
  · skip
    refine RP_ite (fun h2 => ?_) (fun h2 => ?_)
    · skip
      refine RP_bnd (uw_rfb_takeTable_101 v1 (0, 0, m)) (RP_sl (fun e76 h3 => ?_) (fun e79 h5 => ?_))
      · skip
        have h4 : UR rF_takeTable rA_takeTable m e76 := (UR_s h3 UR_0 rfl rfl)
        exact RP_some h4
      · skip
        have h6 : UR rF_takeTable rA_takeTable m e79.2.2 := (UR_s h5 UR_0 rfl rfl)
        exact RP_w (u_rfl_takeTable_384 v1 e79.1 e79.2.1 e79.2.2) (fun z hz => (UR_s hz h6 rfl rfl))
    · skip
      refine RP_bnd (u_rf_bad m) (fun y84 h7 => ?_)
      have h8 : UR rF_takeTable rA_takeTable m y84.2 := (UR_s h7 UR_0 rfl rfl)
      refine RP_bnd (uw_rfb_takeTable_101 v1 (0, 0, y84.2)) (RP_sl (fun e87 h9 => ?_) (fun e90 h11 => ?_))
      · skip
        have h10 : UR rF_takeTable rA_takeTable m e87 := (UR_s h9 h8 rfl rfl)
        exact RP_some h10
      · skip
        have h12 : UR rF_takeTable rA_takeTable m e90.2.2 := (UR_s h11 h8 rfl rfl)
        exact RP_w (u_rfl_takeTable_384 v1 e90.1 e90.2.1 e90.2.2) (fun z hz => (UR_s hz h12 rfl rfl))
  · skip
    refine RP_bnd (uw_rfb_takeTable_101 v1 (0, 0, m)) (RP_sl (fun e67 h13 => ?_) (fun e70 h15 => ?_))
    · skip
      have h14 : UR rF_takeTable rA_takeTable m e67 := (UR_s h13 UR_0 rfl rfl)
      exact RP_some h14
    · skip
      have h16 : UR rF_takeTable rA_takeTable m e70.2.2 := (UR_s h15 UR_0 rfl rfl)
      exact RP_w (u_rfl_takeTable_384 v1 e70.1 e70.2.1 e70.2.2) (fun z hz => (UR_s hz h16 rfl rfl))
theorem u_rfl_takeTable_16 (u0 : Int) (m : mR) : RP (rfl_takeTable_16 u0 m) (fun z : Int × mR => UR rF_takeTable rA_takeTable m z.2) := by
  unfold rfl_takeTable_16
  refine RP_ite (fun h1 => ?_) (fun h1 => ?_)
  · skip
    exact RP_some UR_0
  · skip
    refine RP_bnd (u_rf_need 123 (mO m [(26, cut ((m.1 26) + 1))] [(51, upI (m.2 51) (m.1 26) 0), (52, upI (m.2 52) (m.1 26) 0), (53, upI (m.2 53) (m.1 26) 0), (58, upI (m.2 58) (m.1 26) (nar1 1)), (59, upI (m.2 59) (m.1 26) (nar1 0))])) (fun y96 h2 => ?_)
    have h3 : UR rF_takeTable rA_takeTable m y96.2 := (UR_s h2 (UR_m UR_0 rfl rfl (fun h => h)) rfl rfl)
    exact RP_w (u_rfl_takeTable_76 (m.1 26) y96.2) (fun z hz => (UR_s hz h3 rfl rfl))
theorem u_rfl_takeTable_4 (m : mR) : RP (rfl_takeTable_4 m) (fun z : Int × mR => UR rF_takeTable rA_takeTable m z.2) := by
  unfold rfl_takeTable_4
  refine RP_bnd (u_rf_newName 7 (m.1 26) 8 m) (fun y99 h1 => ?_)
  have h2 : UR rF_takeTable rA_takeTable m y99.2 := (UR_s h1 UR_0 rfl rfl)
  exact RP_w (u_rfl_takeTable_16 y99.1 y99.2) (fun z hz => (UR_s hz h2 rfl rfl))
theorem u_rf_takeTable (m : mR) : RP (rf_takeTable m) (fun z : Int × mR => UR rF_takeTable rA_takeTable m z.2) := by
  unfold rf_takeTable
  refine RP_bnd (u_rf_next m) (fun y102 h1 => ?_)
  have h2 : UR rF_takeTable rA_takeTable m y102.2 := (UR_s h1 UR_0 rfl rfl)
  exact RP_w (u_rfl_takeTable_4 y102.2) (fun z hz => (UR_s hz h2 rfl rfl))
def rF_takeOne : List Nat := [7, 8, 9, 10, 11, 12, 13, 19, 20, 21, 22, 23, 24, 25, 26, 28, 64, 69, 70, 71, 72, 73, 74, 75, 99, 100]
def rA_takeOne : List Nat := [14, 15, 16, 17, 29, 30, 31, 32, 33, 34, 35, 36, 37, 38, 39, 40, 41, 42, 43, 44, 45, 46, 47, 48, 49, 50, 51, 52, 53, 54, 55, 56, 57, 58, 59, 65, 66, 67, 68, 76, 77, 78, 79, 80, 81, 82, 83, 84, 85, 86, 87, 88, 89, 90, 91, 92, 93, 94, 95, 96, 97, 98, 101, 102, 103, 104, 105, 106, 107, 108, 109, 110, 111, 112, 113, 114, 115, 116]
theorem u_rf_takeOne (m : mR) : RP (rf_takeOne m) (fun z : Int × mR => UR rF_takeOne rA_takeOne m z.2) := by
  unfold rf_takeOne
  refine RP_ite (fun h1 => ?_) (fun h1 => ?_)
  · skip
    refine RP_bnd (u_rf_takeHeader m) (fun y2 h2 => ?_)
    have h3 : UR rF_takeOne rA_takeOne m y2.2 := (UR_s h2 UR_0 rfl rfl)
    exact RP_some h3
  · skip
    refine RP_ite (fun h4 => ?_) (fun h4 => ?_)
    · skip
      refine RP_bnd (u_rf_takeUse m) (fun y6 h5 => ?_)
      have h6 : UR rF_takeOne rA_takeOne m y6.2 := (UR_s h5 UR_0 rfl rfl)
      exact RP_some h6
    · skip
      refine RP_ite (fun h7 => ?_) (fun h7 => ?_)
      · skip
        refine RP_bnd (u_rf_takeMeta m) (fun y10 h8 => ?_)
        have h9 : UR rF_takeOne rA_takeOne m y10.2 := (UR_s h8 UR_0 rfl rfl)
        exact RP_some h9
      · skip
        refine RP_ite (fun h10 => ?_) (fun h10 => ?_)
        · skip
          refine RP_bnd (u_rf_takeArray m) (fun y14 h11 => ?_)
          have h12 : UR rF_takeOne rA_takeOne m y14.2 := (UR_s h11 UR_0 rfl rfl)
          exact RP_some h12
        · skip
          refine RP_ite (fun h13 => ?_) (fun h13 => ?_)
          · skip
            refine RP_bnd (u_rf_takeState m) (fun y18 h14 => ?_)
            have h15 : UR rF_takeOne rA_takeOne m y18.2 := (UR_s h14 UR_0 rfl rfl)
            exact RP_some h15
          · skip
            refine RP_ite (fun h16 => ?_) (fun h16 => ?_)
            · skip
              refine RP_bnd (u_rf_takeAction m) (fun y22 h17 => ?_)
              have h18 : UR rF_takeOne rA_takeOne m y22.2 := (UR_s h17 UR_0 rfl rfl)
              exact RP_some h18
            · skip
              refine RP_ite (fun h19 => ?_) (fun h19 => ?_)
              · skip
                refine RP_bnd (u_rf_takeTable m) (fun y26 h20 => ?_)
                have h21 : UR rF_takeOne rA_takeOne m y26.2 := (UR_s h20 UR_0 rfl rfl)
                exact RP_some h21
              · skip
                refine RP_ite (fun h22 => ?_) (fun h22 => ?_)
                · skip
                  exact RP_some UR_0
                · skip
                  refine RP_ite (fun h23 => ?_) (fun h23 => ?_)
                  · skip
                    exact RP_some UR_0
                  · skip
                    refine RP_ite (fun h24 => ?_) (fun h24 => ?_)
                    · skip
                      exact RP_some UR_0
                    · skip
                      refine RP_ite (fun h25 => ?_) (fun h25 => ?_)
                      · skip
                        exact RP_some UR_0
                      · skip
                        exact RP_some UR_0
def rF_openBlock : List Nat := [7, 8, 9, 10, 11, 12, 119]
def rA_openBlock : List Nat := [117, 118]
theorem u_rfl_openBlock_40 (v1 : Int) (v2 : Int) (m : mR) : RP (rfl_openBlock_40 v1 v2 m) (fun z : Int × mR => UR rF_openBlock rA_openBlock m z.2) := by
  unfold rfl_openBlock_40
  refine RP_ite (fun h1 => ?_) (fun h1 => ?_)
  · skip
    exact RP_some (UR_m UR_0 rfl rfl (fun h => h))
  · skip
    exact RP_some UR_0
theorem u_rfl_openBlock_34 (v1 : Int) (v2 : Int) (m : mR) : RP (rfl_openBlock_34 v1 v2 m) (fun z : Int × mR => UR rF_openBlock rA_openBlock m z.2) := by
  unfold rfl_openBlock_34
  refine RP_bnd (u_rf_need 123 m) (fun y2 h1 => ?_)
  have h2 : UR rF_openBlock rA_openBlock m y2.2 := (UR_s h1 UR_0 rfl rfl)
  exact RP_w (u_rfl_openBlock_40 v1 v2 y2.2) (fun z hz => (UR_s hz h2 rfl rfl))
theorem u_rf_openBlock (v1 : Int) (v2 : Int) (m : mR) : RP (rf_openBlock v1 v2 m) (fun z : Int × mR => UR rF_openBlock rA_openBlock m z.2) := by
  unfold rf_openBlock
  refine RP_ite (fun h1 => ?_) (fun h1 => ?_)
  · skip
    refine RP_ite (fun h2 => ?_) (fun h2 => ?_)
    · skip
      refine RP_ite (fun h3 => ?_) (fun h3 => ?_)
      · skip
        refine RP_bnd (u_rf_wrong 4 (m.1 8) m) (fun y8 h4 => ?_)
        have h5 : UR rF_openBlock rA_openBlock m y8.2 := (UR_s h4 UR_0 rfl rfl)
        exact RP_w (u_rfl_openBlock_34 v1 v2 y8.2) (fun z hz => (UR_s hz h5 rfl rfl))
      · skip
        exact RP_w (u_rfl_openBlock_34 v1 v2 m) (fun z hz => (UR_s hz UR_0 rfl rfl))
    · skip
      exact RP_w (u_rfl_openBlock_34 v1 v2 m) (fun z hz => (UR_s hz UR_0 rfl rfl))
  · skip
    exact RP_w (u_rfl_openBlock_34 v1 v2 m) (fun z hz => (UR_s hz UR_0 rfl rfl))
def rF_newStep : List Nat := [10, 11, 27]
def rA_newStep : List Nat := [60, 61, 62, 63]
theorem u_rfl_newStep_18 (v1 : Int) (m : mR) : RP (rfl_newStep_18 v1 m) (fun z : Int × mR => UR rF_newStep rA_newStep m z.2) := by
  unfold rfl_newStep_18
  refine RP_ite (fun h1 => ?_) (fun h1 => ?_)
  · skip
    exact RP_some (UR_m UR_0 rfl rfl (fun h => h))
  · skip
    exact RP_some UR_0
theorem u_rf_newStep (v1 : Int) (m : mR) : RP (rf_newStep v1 m) (fun z : Int × mR => UR rF_newStep rA_newStep m z.2) := by
  unfold rf_newStep
  refine RP_ite (fun h1 => ?_) (fun h1 => ?_)
  · skip
    refine RP_bnd (u_rf_wrong 4 (m.1 8) m) (fun y3 h2 => ?_)
    have h3 : UR rF_newStep rA_newStep m y3.2 := (UR_s h2 UR_0 rfl rfl)
    exact RP_w (u_rfl_newStep_18 v1 y3.2) (fun z hz => (UR_s hz h3 rfl rfl))
  · skip
    exact RP_w (u_rfl_newStep_18 v1 m) (fun z hz => (UR_s hz UR_0 rfl rfl))
def rF_closeBlock : List Nat := [7, 8, 9, 10, 11, 12, 119]
def rA_closeBlock : List Nat := [117, 118]
theorem u_rfl_closeBlock_69 (v1 : Int) (m : mR) : RP (rfl_closeBlock_69 v1 m) (fun z : Int × mR => UR rF_closeBlock rA_closeBlock m z.2) := by
  unfold rfl_closeBlock_69
  refine RP_bnd (u_rf_openBlock v1 0 m) (fun y1 h1 => ?_)
  have h2 : UR rF_closeBlock rA_closeBlock m y1.2 := (UR_s h1 UR_0 rfl rfl)
  exact RP_some h2
theorem u_rfl_closeBlock_6 (m : mR) : RP (rfl_closeBlock_6 m) (fun z : Int × mR => UR rF_closeBlock rA_closeBlock m z.2) := by
  unfold rfl_closeBlock_6
  refine RP_ite (fun h1 => ?_) (fun h1 => ?_)
  · skip
    refine RP_ite (fun h2 => ?_) (fun h2 => ?_)
    · skip
      exact RP_some (UR_m UR_0 rfl rfl (fun h => h))
    · skip
      refine RP_ite (fun h3 => ?_) (fun h3 => ?_)
      · skip
        refine RP_ite (fun h4 => ?_) (fun h4 => ?_)
        · skip
          refine RP_bnd (u_rf_next (mO m [(119, cut ((m.1 119) - 1))] [])) (fun y8 h5 => ?_)
          have h6 : UR rF_closeBlock rA_closeBlock m y8.2 := (UR_s h5 (UR_m UR_0 rfl rfl (fun h => h)) rfl rfl)
          exact RP_w (u_rfl_closeBlock_69 ((m.2 117) (cut ((m.1 119) - 1))) y8.2) (fun z hz => (UR_s hz h6 rfl rfl))
        · skip
          exact RP_some (UR_m UR_0 rfl rfl (fun h => h))
      · skip
        exact RP_some (UR_m UR_0 rfl rfl (fun h => h))
  · skip
    exact RP_some UR_0
theorem u_rf_closeBlock (m : mR) : RP (rf_closeBlock m) (fun z : Int × mR => UR rF_closeBlock rA_closeBlock m z.2) := by
  unfold rf_closeBlock
  refine RP_bnd (u_rf_need 125 m) (fun y11 h1 => ?_)
  have h2 : UR rF_closeBlock rA_closeBlock m y11.2 := (UR_s h1 UR_0 rfl rfl)
  exact RP_w (u_rfl_closeBlock_6 y11.2) (fun z hz => (UR_s hz h2 rfl rfl))
