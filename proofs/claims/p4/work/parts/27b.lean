def rF_wantBit : List Nat := [10, 11]
def rA_wantBit : List Nat := []
theorem u_rfl_wantBit_31 (v5 : Int) (u1 : Int) (m : mR) : RP (rfl_wantBit_31 v5 u1 m) (fun z : Int × mR => UR rF_wantBit rA_wantBit m z.2) := by
  unfold rfl_wantBit_31
  refine RP_bnd (u_rf_want u1 v5 m) (fun y1 h1 => ?_)
  have h2 : UR rF_wantBit rA_wantBit m y1.2 := (UR_s h1 UR_0 rfl rfl)
  exact RP_some h2
theorem u_rf_wantBit (v1 : Int) (v2 : Int) (v3 : Int) (v5 : Int) (m : mR) : RP (rf_wantBit v1 v2 v3 v5 m) (fun z : Int × mR => UR rF_wantBit rA_wantBit m z.2) := by
  unfold rf_wantBit
  refine RP_ite (fun h1 => ?_) (fun h1 => ?_)
  · skip
    refine RP_ite (fun h2 => ?_) (fun h2 => ?_)
    · skip
      exact RP_w (u_rfl_wantBit_31 v5 1 m) (fun z hz => (UR_s hz UR_0 rfl rfl))
    · skip
      exact RP_w (u_rfl_wantBit_31 v5 0 m) (fun z hz => (UR_s hz UR_0 rfl rfl))
  · skip
    refine RP_ite (fun h3 => ?_) (fun h3 => ?_)
    · skip
      exact RP_w (u_rfl_wantBit_31 v5 1 m) (fun z hz => (UR_s hz UR_0 rfl rfl))
    · skip
      exact RP_w (u_rfl_wantBit_31 v5 0 m) (fun z hz => (UR_s hz UR_0 rfl rfl))
def rF_common : List Nat := [10, 11]
def rA_common : List Nat := []
theorem u_rfl_common_63 (v1 : Int) (v10 : Int) (u1 : Int) (m : mR) : RP (rfl_common_63 v1 v10 u1 m) (fun z : Int × mR => UR rF_common rA_common m z.2) := by
  unfold rfl_common_63
  refine RP_bnd (u_rf_want u1 v10 m) (fun y1 h1 => ?_)
  have h2 : UR rF_common rA_common m y1.2 := (UR_s h1 UR_0 rfl rfl)
  exact RP_some h2
theorem u_rfl_common_12 (v1 : Int) (v2 : Int) (v3 : Int) (v5 : Int) (v6 : Int) (v7 : Int) (v8 : Int) (v10 : Int) (m : mR) : RP (rfl_common_12 v1 v2 v3 v5 v6 v7 v8 v10 m) (fun z : Int × mR => UR rF_common rA_common m z.2) := by
  unfold rfl_common_12
  refine RP_ite (fun h1 => ?_) (fun h1 => ?_)
  · skip
    refine RP_ite (fun h2 => ?_) (fun h2 => ?_)
    · skip
      refine RP_ite (fun h3 => ?_) (fun h3 => ?_)
      · skip
        exact RP_w (u_rfl_common_63 v1 v10 1 m) (fun z hz => (UR_s hz UR_0 rfl rfl))
      · skip
        exact RP_w (u_rfl_common_63 v1 v10 0 m) (fun z hz => (UR_s hz UR_0 rfl rfl))
    · skip
      refine RP_bndT (fun y7 => ?_)
      refine RP_bnd (u_rf_want y7 v10 m) (fun y9 h4 => ?_)
      have h5 : UR rF_common rA_common m y9.2 := (UR_s h4 UR_0 rfl rfl)
      exact RP_some h5
  · skip
    refine RP_bndT (fun y12 => ?_)
    refine RP_bnd (u_rf_want y12 v5 m) (fun y14 h6 => ?_)
    have h7 : UR rF_common rA_common m y14.2 := (UR_s h6 UR_0 rfl rfl)
    exact RP_some h7
theorem u_rf_common (v1 : Int) (v2 : Int) (v3 : Int) (v5 : Int) (v6 : Int) (v7 : Int) (v8 : Int) (v10 : Int) (m : mR) : RP (rf_common v1 v2 v3 v5 v6 v7 v8 v10 m) (fun z : Int × mR => UR rF_common rA_common m z.2) := by
  unfold rf_common
  refine RP_ite (fun h1 => ?_) (fun h1 => ?_)
  · skip
    exact RP_w (u_rfl_common_12 v1 v2 v3 v5 v6 v7 v8 v10 m) (fun z hz => (UR_s hz UR_0 rfl rfl))
  · skip
    refine RP_ite (fun h2 => ?_) (fun h2 => ?_)
    · skip
      exact RP_w (u_rfl_common_12 v1 v2 v3 v5 v6 v7 v8 v10 m) (fun z hz => (UR_s hz UR_0 rfl rfl))
    · skip
      exact RP_some UR_0
def rF_join : List Nat := [10, 11, 28, 69, 70, 71, 72]
def rA_join : List Nat := [65, 66, 67, 68, 80]
theorem u_rfl_join_278 (v2 : Int) (v3 : Int) (m : mR) : RP (rfl_join_278 v2 v3 m) (fun z : Int × mR => UR rF_join rA_join m z.2) := by
  unfold rfl_join_278
  refine RP_bnd (u_rf_unit v2 v3 m) (fun y1 h1 => ?_)
  have h2 : UR rF_join rA_join m y1.2 := (UR_s h1 UR_0 rfl rfl)
  exact RP_some h2
theorem u_rfl_join_261 (v1 : Int) (v2 : Int) (v3 : Int) (v4 : Int) (v5 : Int) (m : mR) : RP (rfl_join_261 v1 v2 v3 v4 v5 m) (fun z : Int × mR => UR rF_join rA_join m z.2) := by
  unfold rfl_join_261
  refine RP_bnd (u_rf_node v4 v2 v5 0 (mO m [] [(80, upI (m.2 80) v1 (-1))])) (fun y4 h1 => ?_)
  have h2 : UR rF_join rA_join m y4.2 := (UR_s h1 (UR_m UR_0 rfl rfl (fun h => h)) rfl rfl)
  exact RP_w (u_rfl_join_278 v2 v3 y4.2) (fun z hz => (UR_s hz h2 rfl rfl))
theorem u_rfl_join_260 (v1 : Int) (v3 : Int) (v4 : Int) (v5 : Int) (u0 : Int) (m : mR) : RP (rfl_join_260 v1 v3 v4 v5 u0 m) (fun z : Int × mR => UR rF_join rA_join m z.2) := by
  unfold rfl_join_260
  exact RP_w (u_rfl_join_261 v1 u0 v3 v4 v5 m) (fun z hz => (UR_s hz UR_0 rfl rfl))
theorem u_rfl_join_241 (v1 : Int) (v3 : Int) (v4 : Int) (v5 : Int) (u0 : Int) (m : mR) : RP (rfl_join_241 v1 v3 v4 v5 u0 m) (fun z : Int × mR => UR rF_join rA_join m z.2) := by
  unfold rfl_join_241
  refine RP_bndT (fun y7 => ?_)
  refine RP_ite (fun h1 => ?_) (fun h1 => ?_)
  · skip
    exact RP_w (u_rfl_join_260 v1 v3 v4 v5 1 m) (fun z hz => (UR_s hz UR_0 rfl rfl))
  · skip
    exact RP_w (u_rfl_join_260 v1 v3 v4 v5 u0 m) (fun z hz => (UR_s hz UR_0 rfl rfl))
theorem u_rfl_join_207 (v1 : Int) (v2 : Int) (v3 : Int) (v4 : Int) (v5 : Int) (m : mR) : RP (rfl_join_207 v1 v2 v3 v4 v5 m) (fun z : Int × mR => UR rF_join rA_join m z.2) := by
  unfold rfl_join_207
  refine RP_bnd (u_rf_common v2 ((m.2 83) v1) ((m.2 84) v1) v3 (m.1 69) (m.1 71) (m.1 72) (m.1 70) m) (fun y10 h1 => ?_)
  have h2 : UR rF_join rA_join m y10.2 := (UR_s h1 UR_0 rfl rfl)
  exact RP_w (u_rfl_join_241 v1 v3 v4 v5 y10.1 y10.2) (fun z hz => (UR_s hz h2 rfl rfl))
theorem u_rfl_join_197 (v1 : Int) (v2 : Int) (v3 : Int) (v4 : Int) (v5 : Int) (m : mR) : RP (rfl_join_197 v1 v2 v3 v4 v5 m) (fun z : Int × mR => UR rF_join rA_join m z.2) := by
  unfold rfl_join_197
  exact RP_w (u_rfl_join_261 v1 (cut (v2 + (m.1 69))) v3 v4 v5 m) (fun z hz => (UR_s hz UR_0 rfl rfl))
theorem u_rfl_join_190 (v1 : Int) (v2 : Int) (v3 : Int) (v4 : Int) (v5 : Int) (u1 : Int) (m : mR) : RP (rfl_join_190 v1 v2 v3 v4 v5 u1 m) (fun z : Int × mR => UR rF_join rA_join m z.2) := by
  unfold rfl_join_190
  refine RP_bnd (u_rf_want u1 (m.1 70) m) (fun y13 h1 => ?_)
  have h2 : UR rF_join rA_join m y13.2 := (UR_s h1 UR_0 rfl rfl)
  exact RP_w (u_rfl_join_197 v1 v2 v3 v4 v5 y13.2) (fun z hz => (UR_s hz h2 rfl rfl))
theorem u_rfl_join_173 (v1 : Int) (v2 : Int) (v3 : Int) (v4 : Int) (v5 : Int) (m : mR) : RP (rfl_join_173 v1 v2 v3 v4 v5 m) (fun z : Int × mR => UR rF_join rA_join m z.2) := by
  unfold rfl_join_173
  refine RP_ite (fun h1 => ?_) (fun h1 => ?_)
  · skip
    exact RP_w (u_rfl_join_190 v1 v2 v3 v4 v5 0 m) (fun z hz => (UR_s hz UR_0 rfl rfl))
  · skip
    exact RP_w (u_rfl_join_190 v1 v2 v3 v4 v5 1 m) (fun z hz => (UR_s hz UR_0 rfl rfl))
theorem u_rfl_join_166 (v1 : Int) (v2 : Int) (v3 : Int) (v4 : Int) (v5 : Int) (u1 : Int) (m : mR) : RP (rfl_join_166 v1 v2 v3 v4 v5 u1 m) (fun z : Int × mR => UR rF_join rA_join m z.2) := by
  unfold rfl_join_166
  refine RP_bnd (u_rf_want u1 (m.1 70) m) (fun y17 h1 => ?_)
  have h2 : UR rF_join rA_join m y17.2 := (UR_s h1 UR_0 rfl rfl)
  exact RP_w (u_rfl_join_173 v1 v2 v3 v4 v5 y17.2) (fun z hz => (UR_s hz h2 rfl rfl))
theorem u_rfl_join_153 (v1 : Int) (v2 : Int) (v3 : Int) (v4 : Int) (v5 : Int) (m : mR) : RP (rfl_join_153 v1 v2 v3 v4 v5 m) (fun z : Int × mR => UR rF_join rA_join m z.2) := by
  unfold rfl_join_153
  refine RP_ite (fun h1 => ?_) (fun h1 => ?_)
  · skip
    exact RP_w (u_rfl_join_166 v1 v2 v3 v4 v5 1 m) (fun z hz => (UR_s hz UR_0 rfl rfl))
  · skip
    exact RP_w (u_rfl_join_166 v1 v2 v3 v4 v5 0 m) (fun z hz => (UR_s hz UR_0 rfl rfl))
theorem u_rfl_join_149 (v1 : Int) (v2 : Int) (v3 : Int) (v4 : Int) (v5 : Int) (u1 : Int) (m : mR) : RP (rfl_join_149 v1 v2 v3 v4 v5 u1 m) (fun z : Int × mR => UR rF_join rA_join m z.2) := by
  unfold rfl_join_149
  refine RP_bnd (u_rf_want u1 v3 m) (fun y21 h1 => ?_)
  have h2 : UR rF_join rA_join m y21.2 := (UR_s h1 UR_0 rfl rfl)
  exact RP_w (u_rfl_join_153 v1 v2 v3 v4 v5 y21.2) (fun z hz => (UR_s hz h2 rfl rfl))
theorem u_rfl_join_126 (v1 : Int) (v3 : Int) (v4 : Int) (v5 : Int) (m : mR) : RP (rfl_join_126 v1 v3 v4 v5 m) (fun z : Int × mR => UR rF_join rA_join m z.2) := by
  unfold rfl_join_126
  exact RP_w (u_rfl_join_261 v1 1 v3 v4 v5 m) (fun z hz => (UR_s hz UR_0 rfl rfl))
theorem u_rfl_join_106 (v1 : Int) (v3 : Int) (v4 : Int) (v5 : Int) (m : mR) : RP (rfl_join_106 v1 v3 v4 v5 m) (fun z : Int × mR => UR rF_join rA_join m z.2) := by
  unfold rfl_join_106
  refine RP_bnd (u_rf_wantBit (m.1 69) (m.1 71) (m.1 72) (m.1 70) m) (fun y24 h1 => ?_)
  have h2 : UR rF_join rA_join m y24.2 := (UR_s h1 UR_0 rfl rfl)
  exact RP_w (u_rfl_join_126 v1 v3 v4 v5 y24.2) (fun z hz => (UR_s hz h2 rfl rfl))
theorem u_rfl_join_88 (v1 : Int) (v2 : Int) (v3 : Int) (v4 : Int) (v5 : Int) (m : mR) : RP (rfl_join_88 v1 v2 v3 v4 v5 m) (fun z : Int × mR => UR rF_join rA_join m z.2) := by
  unfold rfl_join_88
  refine RP_bnd (u_rf_wantBit v2 ((m.2 83) v1) ((m.2 84) v1) v3 m) (fun y27 h1 => ?_)
  have h2 : UR rF_join rA_join m y27.2 := (UR_s h1 UR_0 rfl rfl)
  exact RP_w (u_rfl_join_106 v1 v3 v4 v5 y27.2) (fun z hz => (UR_s hz h2 rfl rfl))
theorem u_rf_join (v1 : Int) (m : mR) : RP (rf_join v1 m) (fun z : Int × mR => UR rF_join rA_join m z.2) := by
  unfold rf_join
  refine RP_bndT (fun y30 => ?_)
  refine RP_ite (fun h1 => ?_) (fun h1 => ?_)
  · skip
    exact RP_w (u_rfl_join_88 v1 ((m.2 81) v1) ((m.2 82) v1) ((m.2 80) v1) (m.1 69) m) (fun z hz => (UR_s hz UR_0 rfl rfl))
  · skip
    refine RP_ite (fun h2 => ?_) (fun h2 => ?_)
    · skip
      exact RP_w (u_rfl_join_88 v1 ((m.2 81) v1) ((m.2 82) v1) ((m.2 80) v1) (m.1 69) m) (fun z hz => (UR_s hz UR_0 rfl rfl))
    · skip
      refine RP_ite (fun h3 => ?_) (fun h3 => ?_)
      · skip
        exact RP_w (u_rfl_join_261 v1 ((m.2 81) v1) ((m.2 82) v1) ((m.2 80) v1) (m.1 69) m) (fun z hz => (UR_s hz UR_0 rfl rfl))
      · skip
        refine RP_ite (fun h4 => ?_) (fun h4 => ?_)
        · skip
          refine RP_ite (fun h5 => ?_) (fun h5 => ?_)
          · skip
            exact RP_w (u_rfl_join_149 v1 ((m.2 81) v1) ((m.2 82) v1) ((m.2 80) v1) (m.1 69) 1 m) (fun z hz => (UR_s hz UR_0 rfl rfl))
          · skip
            exact RP_w (u_rfl_join_149 v1 ((m.2 81) v1) ((m.2 82) v1) ((m.2 80) v1) (m.1 69) 0 m) (fun z hz => (UR_s hz UR_0 rfl rfl))
        · skip
          refine RP_ite (fun h6 => ?_) (fun h6 => ?_)
          · skip
            exact RP_w (u_rfl_join_207 v1 ((m.2 81) v1) ((m.2 82) v1) ((m.2 80) v1) (m.1 69) m) (fun z hz => (UR_s hz UR_0 rfl rfl))
          · skip
            refine RP_ite (fun h7 => ?_) (fun h7 => ?_)
            · skip
              exact RP_w (u_rfl_join_207 v1 ((m.2 81) v1) ((m.2 82) v1) ((m.2 80) v1) (m.1 69) m) (fun z hz => (UR_s hz UR_0 rfl rfl))
            · skip
              refine RP_ite (fun h8 => ?_) (fun h8 => ?_)
              · skip
                exact RP_w (u_rfl_join_207 v1 ((m.2 81) v1) ((m.2 82) v1) ((m.2 80) v1) (m.1 69) m) (fun z hz => (UR_s hz UR_0 rfl rfl))
              · skip
                refine RP_ite (fun h9 => ?_) (fun h9 => ?_)
                · skip
                  exact RP_w (u_rfl_join_207 v1 ((m.2 81) v1) ((m.2 82) v1) ((m.2 80) v1) (m.1 69) m) (fun z hz => (UR_s hz UR_0 rfl rfl))
                · skip
                  refine RP_ite (fun h10 => ?_) (fun h10 => ?_)
                  · skip
                    exact RP_w (u_rfl_join_207 v1 ((m.2 81) v1) ((m.2 82) v1) ((m.2 80) v1) (m.1 69) m) (fun z hz => (UR_s hz UR_0 rfl rfl))
                  · skip
                    exact RP_w (u_rfl_join_207 v1 ((m.2 81) v1) ((m.2 82) v1) ((m.2 80) v1) (m.1 69) m) (fun z hz => (UR_s hz UR_0 rfl rfl))
def rF_endChoice : List Nat := [7, 8, 9, 10, 11, 12, 28, 69, 70, 71, 72, 73, 74, 75]
def rA_endChoice : List Nat := [65, 66, 67, 68]
theorem u_rfl_endChoice_226 (v2 : Int) (m : mR) : RP (rfl_endChoice_226 v2 m) (fun z : Int × mR => UR rF_endChoice rA_endChoice m z.2) := by
  unfold rfl_endChoice_226
  exact RP_some (UR_m UR_0 rfl rfl (fun h => h))
theorem u_rfl_endChoice_195 (m : mR) : RP (rfl_endChoice_195 m) (fun z : Int × mR => UR rF_endChoice rA_endChoice m z.2) := by
  unfold rfl_endChoice_195
  refine RP_ite (fun h1 => ?_) (fun h1 => ?_)
  · skip
    exact RP_some (UR_m UR_0 rfl rfl (fun h => h))
  · skip
    refine RP_bnd (u_rf_need 41 m) (fun y3 h2 => ?_)
    have h3 : UR rF_endChoice rA_endChoice m y3.2 := (UR_s h2 UR_0 rfl rfl)
    exact RP_w (u_rfl_endChoice_226 ((m.2 77) (cut ((m.1 73) - 1))) y3.2) (fun z hz => (UR_s hz h3 rfl rfl))
theorem u_rfl_endChoice_191 (u0 : Int) (m : mR) : RP (rfl_endChoice_191 u0 m) (sel (fun z : (Int × mR) => UR rF_endChoice rA_endChoice m z.2) (fun z : mR => UR rF_endChoice rA_endChoice m z)) := by
  unfold rfl_endChoice_191
  exact RP_some UR_0
theorem u_rfl_endChoice_190 (m : mR) : RP (rfl_endChoice_190 m) (sel (fun z : (Int × mR) => UR rF_endChoice rA_endChoice m z.2) (fun z : mR => UR rF_endChoice rA_endChoice m z)) := by
  unfold rfl_endChoice_190
  exact RP_w (u_rfl_endChoice_191 0 m) (sl_w (fun z hz => (UR_s hz UR_0 rfl rfl)) (fun z hz => (UR_s hz UR_0 rfl rfl)))
theorem u_rfl_endChoice_152 (m : mR) : RP (rfl_endChoice_152 m) (sel (fun z : (Int × mR) => UR rF_endChoice rA_endChoice m z.2) (fun z : mR => UR rF_endChoice rA_endChoice m z)) := by
  unfold rfl_endChoice_152
  refine RP_ite (fun h1 => ?_) (fun h1 => ?_)
  · skip
    exact RP_w (u_rfl_endChoice_190 (mO m [(73, cut ((m.1 73) - 1)), (74, cut ((m.1 74) - 1))] [])) (sl_w (fun z hz => (UR_s hz (UR_m UR_0 rfl rfl (fun h => h)) rfl rfl)) (fun z hz => (UR_s hz (UR_m UR_0 rfl rfl (fun h => h)) rfl rfl)))
  · skip
    refine RP_ite (fun h2 => ?_) (fun h2 => ?_)
    · skip
      exact RP_w (u_rfl_endChoice_191 1 (mO m [(73, cut ((m.1 73) - 1)), (74, cut ((m.1 74) - 1))] [])) (sl_w (fun z hz => (UR_s hz (UR_m UR_0 rfl rfl (fun h => h)) rfl rfl)) (fun z hz => (UR_s hz (UR_m UR_0 rfl rfl (fun h => h)) rfl rfl)))
    · skip
      exact RP_w (u_rfl_endChoice_190 (mO m [(73, cut ((m.1 73) - 1)), (74, cut ((m.1 74) - 1))] [])) (sl_w (fun z hz => (UR_s hz (UR_m UR_0 rfl rfl (fun h => h)) rfl rfl)) (fun z hz => (UR_s hz (UR_m UR_0 rfl rfl (fun h => h)) rfl rfl)))
theorem u_rfl_endChoice_141 (v2 : Int) (v3 : Int) (m : mR) : RP (rfl_endChoice_141 v2 v3 m) (sel (fun z : (Int × mR) => UR rF_endChoice rA_endChoice m z.2) (fun z : mR => UR rF_endChoice rA_endChoice m z)) := by
  unfold rfl_endChoice_141
  refine RP_bnd (u_rf_unit v3 ((m.2 86) v2) m) (fun y8 h1 => ?_)
  have h2 : UR rF_endChoice rA_endChoice m y8.2 := (UR_s h1 UR_0 rfl rfl)
  exact RP_w (u_rfl_endChoice_152 y8.2) (sl_w (fun z hz => (UR_s hz h2 rfl rfl)) (fun z hz => (UR_s hz h2 rfl rfl)))
theorem u_rfl_endChoice_130 (v2 : Int) (u0 : Int) (m : mR) : RP (rfl_endChoice_130 v2 u0 m) (sel (fun z : (Int × mR) => UR rF_endChoice rA_endChoice m z.2) (fun z : mR => UR rF_endChoice rA_endChoice m z)) := by
  unfold rfl_endChoice_130
  refine RP_bnd (u_rf_node 407 u0 0 0 m) (fun y11 h1 => ?_)
  have h2 : UR rF_endChoice rA_endChoice m y11.2 := (UR_s h1 UR_0 rfl rfl)
  exact RP_w (u_rfl_endChoice_141 v2 u0 y11.2) (sl_w (fun z hz => (UR_s hz h2 rfl rfl)) (fun z hz => (UR_s hz h2 rfl rfl)))
theorem u_rfl_endChoice_86 (v2 : Int) (m : mR) : RP (rfl_endChoice_86 v2 m) (sel (fun z : (Int × mR) => UR rF_endChoice rA_endChoice m z.2) (fun z : mR => UR rF_endChoice rA_endChoice m z)) := by
  unfold rfl_endChoice_86
  refine RP_bnd (u_rf_common ((m.2 87) v2) ((m.2 90) v2) ((m.2 92) v2) ((m.2 88) v2) (m.1 69) (m.1 71) (m.1 72) (m.1 70) m) (fun y14 h1 => ?_)
  have h2 : UR rF_endChoice rA_endChoice m y14.2 := (UR_s h1 UR_0 rfl rfl)
  exact RP_w (u_rfl_endChoice_130 v2 y14.1 y14.2) (sl_w (fun z hz => (UR_s hz h2 rfl rfl)) (fun z hz => (UR_s hz h2 rfl rfl)))
theorem u_rfb_endChoice_33 (s : Int × mR) : RP (rfb_endChoice_33 s) (sel (fun z : (Int × mR) => UR rF_endChoice rA_endChoice s.2 z.2) (fun z : mR => UR rF_endChoice rA_endChoice s.2 z)) := by
  unfold rfb_endChoice_33
  refine RP_ite (fun h1 => ?_) (fun h1 => ?_)
  · skip
    exact RP_some UR_0
  · skip
    refine RP_ite (fun h2 => ?_) (fun h2 => ?_)
    · skip
      refine RP_bnd (u_rf_wantBit ((s.2.2 85) (cut ((s.2.1 73) - 1))) ((s.2.2 89) (cut ((s.2.1 73) - 1))) ((s.2.2 91) (cut ((s.2.1 73) - 1))) ((s.2.2 86) (cut ((s.2.1 73) - 1))) s.2) (fun y20 h3 => ?_)
      have h4 : UR rF_endChoice rA_endChoice s.2 y20.2 := (UR_s h3 UR_0 rfl rfl)
      exact RP_w (u_rfl_endChoice_86 (cut ((s.2.1 73) - 1)) y20.2) (sl_w (fun z hz => (UR_s hz h4 rfl rfl)) (fun z hz => (UR_s hz h4 rfl rfl)))
    · skip
      exact RP_some UR_0
theorem uw_rfb_endChoice_33 (s : Int × mR) : RP (whl rfb_endChoice_33 s) (fun z : mR => UR rF_endChoice rA_endChoice s.2 z) := RP_whl (I := fun q : Int × mR => UR rF_endChoice rA_endChoice s.2 q.2) (fun q hq => RP_w (u_rfb_endChoice_33 q) (sl_w (fun z hz => (UR_s hz hq rfl rfl)) (fun z hz => (UR_s hz hq rfl rfl)))) UR_0
theorem u_rfl_endChoice_32 (u0 : Int) (m : mR) : RP (rfl_endChoice_32 u0 m) (fun z : Int × mR => UR rF_endChoice rA_endChoice m z.2) := by
  unfold rfl_endChoice_32
  refine RP_bnd (uw_rfb_endChoice_33 (u0, m)) (fun e23 h1 => ?_)
  have h2 : UR rF_endChoice rA_endChoice m e23 := (UR_s h1 UR_0 rfl rfl)
  exact RP_w (u_rfl_endChoice_195 e23) (fun z hz => (UR_s hz h2 rfl rfl))
theorem u_rf_endChoice (m : mR) : RP (rf_endChoice m) (fun z : Int × mR => UR rF_endChoice rA_endChoice m z.2) := by
  unfold rf_endChoice
  refine RP_ite (fun h1 => ?_) (fun h1 => ?_)
  · skip
    exact RP_w (u_rfl_endChoice_32 0 (mO m [(73, cut ((m.1 73) - 1)), (74, cut ((m.1 74) - 1))] [])) (fun z hz => (UR_s hz (UR_m UR_0 rfl rfl (fun h => h)) rfl rfl))
  · skip
    exact RP_w (u_rfl_endChoice_32 1 (mO m [(73, cut ((m.1 73) - 1)), (74, cut ((m.1 74) - 1))] [])) (fun z hz => (UR_s hz (UR_m UR_0 rfl rfl (fun h => h)) rfl rfl))
def rF_endOr : List Nat := [7, 8, 9, 10, 11, 12, 28, 69, 70, 71, 72, 73, 74, 75]
def rA_endOr : List Nat := [65, 66, 67, 68, 76, 77, 78, 79, 80, 85, 86, 87, 88, 89, 90, 91, 92]
theorem u_rfl_endOr_140 (m : mR) : RP (rfl_endOr_140 m) (fun z : Int × mR => UR rF_endOr rA_endOr m z.2) := by
  unfold rfl_endOr_140
  refine RP_bnd (u_rf_beginChoice m) (fun y1 h1 => ?_)
  have h2 : UR rF_endOr rA_endOr m y1.2 := (UR_s h1 UR_0 rfl rfl)
  exact RP_some h2
theorem u_rfl_endOr_77 (v1 : Int) (m : mR) : RP (rfl_endOr_77 v1 m) (fun z : Int × mR => UR rF_endOr rA_endOr m z.2) := by
  unfold rfl_endOr_77
  refine RP_ite (fun h1 => ?_) (fun h1 => ?_)
  · skip
    refine RP_bnd (u_rf_need 58 (mO m [] [(79, upI (m.2 79) v1 2), (87, upI (m.2 87) v1 (m.1 69)), (88, upI (m.2 88) v1 (m.1 70)), (90, upI (m.2 90) v1 (nar1 (m.1 71))), (92, upI (m.2 92) v1 (m.1 72))])) (fun y8 h2 => ?_)
    have h3 : UR rF_endOr rA_endOr m y8.2 := (UR_s h2 (UR_m UR_0 rfl rfl (fun h => h)) rfl rfl)
    exact RP_w (u_rfl_endOr_140 y8.2) (fun z hz => (UR_s hz h3 rfl rfl))
  · skip
    refine RP_bnd (u_rf_endChoice m) (fun y5 h4 => ?_)
    have h5 : UR rF_endOr rA_endOr m y5.2 := (UR_s h4 UR_0 rfl rfl)
    exact RP_some h5
theorem u_rfl_endOr_69 (m : mR) : RP (rfl_endOr_69 m) (fun z : Int × mR => UR rF_endOr rA_endOr m z.2) := by
  unfold rfl_endOr_69
  exact RP_some (UR_m UR_0 rfl rfl (fun h => h))
theorem u_rf_endOr (v1 : Int) (m : mR) : RP (rf_endOr v1 m) (fun z : Int × mR => UR rF_endOr rA_endOr m z.2) := by
  unfold rf_endOr
  refine RP_ite (fun h1 => ?_) (fun h1 => ?_)
  · skip
    refine RP_ite (fun h2 => ?_) (fun h2 => ?_)
    · skip
      refine RP_bnd (u_rf_next (mO m [] [(79, upI (m.2 79) v1 1), (85, upI (m.2 85) v1 (m.1 69)), (86, upI (m.2 86) v1 (m.1 70)), (89, upI (m.2 89) v1 (nar1 (m.1 71))), (91, upI (m.2 91) v1 (m.1 72))])) (fun y13 h3 => ?_)
      have h4 : UR rF_endOr rA_endOr m y13.2 := (UR_s h3 (UR_m UR_0 rfl rfl (fun h => h)) rfl rfl)
      exact RP_w (u_rfl_endOr_69 y13.2) (fun z hz => (UR_s hz h4 rfl rfl))
    · skip
      exact RP_w (u_rfl_endOr_77 v1 m) (fun z hz => (UR_s hz UR_0 rfl rfl))
  · skip
    exact RP_w (u_rfl_endOr_77 v1 m) (fun z hz => (UR_s hz UR_0 rfl rfl))
def rF_goOn : List Nat := [7, 8, 9, 10, 11, 12, 28, 69, 70, 71, 72, 73, 74, 75]
def rA_goOn : List Nat := [65, 66, 67, 68, 76, 77, 78, 79, 80, 81, 82, 83, 84, 85, 86, 87, 88, 89, 90, 91, 92]
theorem u_rfl_goOn_277 (m : mR) : RP (rfl_goOn_277 m) (fun z : Int × mR => UR rF_goOn rA_goOn m z.2) := by
  unfold rfl_goOn_277
  exact RP_some (UR_m UR_0 rfl rfl (fun h => h))
theorem u_rfl_goOn_204 (v1 : Int) (v2 : Int) (m : mR) : RP (rfl_goOn_204 v1 v2 m) (fun z : Int × mR => UR rF_goOn rA_goOn m z.2) := by
  unfold rfl_goOn_204
  refine RP_ite (fun h1 => ?_) (fun h1 => ?_)
  · skip
    refine RP_ite (fun h2 => ?_) (fun h2 => ?_)
    · skip
      refine RP_bnd (u_rf_endOr v1 m) (fun y4 h3 => ?_)
      have h4 : UR rF_goOn rA_goOn m y4.2 := (UR_s h3 UR_0 rfl rfl)
      exact RP_some h4
    · skip
      refine RP_bnd (u_rf_next (mO m [] [(80, upI (m.2 80) (cut ((cut (9 * v1)) + v2)) (m.1 7)), (81, upI (m.2 81) (cut ((cut (9 * v1)) + v2)) (m.1 69)), (82, upI (m.2 82) (cut ((cut (9 * v1)) + v2)) (m.1 70)), (83, upI (m.2 83) (cut ((cut (9 * v1)) + v2)) (nar1 (m.1 71))), (84, upI (m.2 84) (cut ((cut (9 * v1)) + v2)) (m.1 72))])) (fun y7 h5 => ?_)
      have h6 : UR rF_goOn rA_goOn m y7.2 := (UR_s h5 (UR_m UR_0 rfl rfl (fun h => h)) rfl rfl)
      exact RP_w (u_rfl_goOn_277 y7.2) (fun z hz => (UR_s hz h6 rfl rfl))
  · skip
    exact RP_some UR_0
theorem u_rfl_goOn_198 (v1 : Int) (v2 : Int) (v3 : Int) (m : mR) : RP (rfl_goOn_198 v1 v2 v3 m) (sel (fun z : (Int × mR) => UR rF_goOn rA_goOn m z.2) (fun z : mR => UR rF_goOn rA_goOn m z)) := by
  unfold rfl_goOn_198
  exact RP_some UR_0
theorem u_rfb_goOn_162 (v1 : Int) (v2 : Int) (s : Int × mR) : RP (rfb_goOn_162 v1 v2 s) (sel (fun z : (Int × mR) => UR rF_goOn rA_goOn s.2 z.2) (fun z : mR => UR rF_goOn rA_goOn s.2 z)) := by
  unfold rfb_goOn_162
  refine RP_ite (fun h1 => ?_) (fun h1 => ?_)
  · skip
    exact RP_some UR_0
  · skip
    refine RP_ite (fun h2 => ?_) (fun h2 => ?_)
    · skip
      exact RP_some UR_0
    · skip
      refine RP_ite (fun h3 => ?_) (fun h3 => ?_)
      · skip
        refine RP_bnd (u_rf_join (cut ((cut (9 * v1)) + s.1)) s.2) (fun y14 h4 => ?_)
        have h5 : UR rF_goOn rA_goOn s.2 y14.2 := (UR_s h4 UR_0 rfl rfl)
        exact RP_w (u_rfl_goOn_198 v1 v2 s.1 y14.2) (sl_w (fun z hz => (UR_s hz h5 rfl rfl)) (fun z hz => (UR_s hz h5 rfl rfl)))
      · skip
        exact RP_w (u_rfl_goOn_198 v1 v2 s.1 s.2) (sl_w (fun z hz => (UR_s hz UR_0 rfl rfl)) (fun z hz => (UR_s hz UR_0 rfl rfl)))
theorem uw_rfb_goOn_162 (v1 : Int) (v2 : Int) (s : Int × mR) : RP (whl (rfb_goOn_162 v1 v2) s) (fun z : mR => UR rF_goOn rA_goOn s.2 z) := RP_whl (I := fun q : Int × mR => UR rF_goOn rA_goOn s.2 q.2) (fun q hq => RP_w (u_rfb_goOn_162 v1 v2 q) (sl_w (fun z hz => (UR_s hz hq rfl rfl)) (fun z hz => (UR_s hz hq rfl rfl)))) UR_0
theorem u_rfl_goOn_159 (v1 : Int) (v2 : Int) (m : mR) : RP (rfl_goOn_159 v1 v2 m) (fun z : Int × mR => UR rF_goOn rA_goOn m z.2) := by
  unfold rfl_goOn_159
  refine RP_bnd (uw_rfb_goOn_162 v1 v2 (8, m)) (fun e17 h1 => ?_)
  have h2 : UR rF_goOn rA_goOn m e17 := (UR_s h1 UR_0 rfl rfl)
  exact RP_w (u_rfl_goOn_204 v1 v2 e17) (fun z hz => (UR_s hz h2 rfl rfl))
theorem u_rfl_goOn_123 (v2 : Int) (v3 : Int) (m : mR) : RP (rfl_goOn_123 v2 v3 m) (fun z : Int × mR => UR rF_goOn rA_goOn m z.2) := by
  unfold rfl_goOn_123
  refine RP_bnd (u_rf_unit v3 v2 m) (fun y20 h1 => ?_)
  have h2 : UR rF_goOn rA_goOn m y20.2 := (UR_s h1 UR_0 rfl rfl)
  exact RP_some h2
theorem u_rfl_goOn_117 (v2 : Int) (v3 : Int) (u1 : Int) (m : mR) : RP (rfl_goOn_117 v2 v3 u1 m) (fun z : Int × mR => UR rF_goOn rA_goOn m z.2) := by
  unfold rfl_goOn_117
  refine RP_bnd (u_rf_node u1 v3 0 0 m) (fun y23 h1 => ?_)
  have h2 : UR rF_goOn rA_goOn m y23.2 := (UR_s h1 UR_0 rfl rfl)
  exact RP_w (u_rfl_goOn_123 v2 v3 y23.2) (fun z hz => (UR_s hz h2 rfl rfl))
theorem u_rfl_goOn_73 (v1 : Int) (v2 : Int) (v3 : Int) (m : mR) : RP (rfl_goOn_73 v1 v2 v3 m) (fun z : Int × mR => UR rF_goOn rA_goOn m z.2) := by
  unfold rfl_goOn_73
  refine RP_ite (fun h1 => ?_) (fun h1 => ?_)
  · skip
    exact RP_w (u_rfl_goOn_117 v2 v3 408 (mO m [(73, cut ((m.1 73) - 1)), (74, cut ((m.1 74) - 1))] [])) (fun z hz => (UR_s hz (UR_m UR_0 rfl rfl (fun h => h)) rfl rfl))
  · skip
    exact RP_w (u_rfl_goOn_117 v2 v3 ((m.2 78) v1) (mO m [(73, cut ((m.1 73) - 1)), (74, cut ((m.1 74) - 1))] [])) (fun z hz => (UR_s hz (UR_m UR_0 rfl rfl (fun h => h)) rfl rfl))
theorem u_rfl_goOn_60 (v1 : Int) (v2 : Int) (v3 : Int) (m : mR) : RP (rfl_goOn_60 v1 v2 v3 m) (fun z : Int × mR => UR rF_goOn rA_goOn m z.2) := by
  unfold rfl_goOn_60
  refine RP_ite (fun h1 => ?_) (fun h1 => ?_)
  · skip
    exact RP_w (u_rfl_goOn_73 v1 v2 1 m) (fun z hz => (UR_s hz UR_0 rfl rfl))
  · skip
    exact RP_w (u_rfl_goOn_73 v1 v2 v3 m) (fun z hz => (UR_s hz UR_0 rfl rfl))
theorem u_rf_goOn (m : mR) : RP (rf_goOn m) (fun z : Int × mR => UR rF_goOn rA_goOn m z.2) := by
  unfold rf_goOn
  refine RP_ite (fun h1 => ?_) (fun h1 => ?_)
  · skip
    refine RP_ite (fun h2 => ?_) (fun h2 => ?_)
    · skip
      refine RP_bnd (u_rf_wantBit (m.1 69) (m.1 71) (m.1 72) (m.1 70) m) (fun y34 h3 => ?_)
      have h4 : UR rF_goOn rA_goOn m y34.2 := (UR_s h3 UR_0 rfl rfl)
      exact RP_w (u_rfl_goOn_60 (cut ((m.1 73) - 1)) ((m.2 77) (cut ((m.1 73) - 1))) (m.1 69) y34.2) (fun z hz => (UR_s hz h4 rfl rfl))
    · skip
      exact RP_w (u_rfl_goOn_60 (cut ((m.1 73) - 1)) ((m.2 77) (cut ((m.1 73) - 1))) (m.1 69) m) (fun z hz => (UR_s hz UR_0 rfl rfl))
  · skip
    refine RP_bndT (fun y29 => ?_)
    refine RP_ite (fun h5 => ?_) (fun h5 => ?_)
    · skip
      refine RP_ite (fun h6 => ?_) (fun h6 => ?_)
      · skip
        exact RP_w (u_rfl_goOn_159 (cut ((m.1 73) - 1)) y29 m) (fun z hz => (UR_s hz UR_0 rfl rfl))
      · skip
        exact RP_w (u_rfl_goOn_159 (cut ((m.1 73) - 1)) (-1) m) (fun z hz => (UR_s hz UR_0 rfl rfl))
    · skip
      exact RP_w (u_rfl_goOn_159 (cut ((m.1 73) - 1)) y29 m) (fun z hz => (UR_s hz UR_0 rfl rfl))
def rF_readExpr : List Nat := [7, 8, 9, 10, 11, 12, 28, 69, 70, 71, 72, 73, 74, 75]
def rA_readExpr : List Nat := [65, 66, 67, 68, 76, 77, 78, 79, 80, 81, 82, 83, 84, 85, 86, 87, 88, 89, 90, 91, 92]
theorem u_rfb_readExpr_19 (s : mR) : RP (rfb_readExpr_19 s) (sel (fun z : (mR) => UR rF_readExpr rA_readExpr s z) (fun z : mR => UR rF_readExpr rA_readExpr s z)) := by
  unfold rfb_readExpr_19
  refine RP_ite (fun h1 => ?_) (fun h1 => ?_)
  · skip
    refine RP_ite (fun h2 => ?_) (fun h2 => ?_)
    · skip
      exact RP_some UR_0
    · skip
      refine RP_ite (fun h3 => ?_) (fun h3 => ?_)
      · skip
        refine RP_bnd (u_rf_wantUnit s) (fun y6 h4 => ?_)
        have h5 : UR rF_readExpr rA_readExpr s y6.2 := (UR_s h4 UR_0 rfl rfl)
        exact RP_some h5
      · skip
        refine RP_ite (fun h6 => ?_) (fun h6 => ?_)
        · skip
          refine RP_bnd (u_rf_after s) (fun y10 h7 => ?_)
          have h8 : UR rF_readExpr rA_readExpr s y10.2 := (UR_s h7 UR_0 rfl rfl)
          exact RP_some h8
        · skip
          refine RP_bnd (u_rf_goOn s) (fun y13 h9 => ?_)
          have h10 : UR rF_readExpr rA_readExpr s y13.2 := (UR_s h9 UR_0 rfl rfl)
          exact RP_some h10
  · skip
    exact RP_some UR_0
theorem uw_rfb_readExpr_19 (s : mR) : RP (whl rfb_readExpr_19 s) (fun z : mR => UR rF_readExpr rA_readExpr s z) := RP_whl (I := fun q : mR => UR rF_readExpr rA_readExpr s q) (fun q hq => RP_w (u_rfb_readExpr_19 q) (sl_w (fun z hz => (UR_s hz hq rfl rfl)) (fun z hz => (UR_s hz hq rfl rfl)))) UR_0
theorem u_rf_readExpr (m : mR) : RP (rf_readExpr m) (fun z : Int × mR => UR rF_readExpr rA_readExpr m z.2) := by
  unfold rf_readExpr
  refine RP_bnd (u_rf_beginChoice (mO m [(73, 0), (74, 0), (75, 0)] [])) (fun y16 h1 => ?_)
  have h2 : UR rF_readExpr rA_readExpr m y16.2 := (UR_s h1 (UR_m UR_0 rfl rfl (fun h => h)) rfl rfl)
  refine RP_bnd (uw_rfb_readExpr_19 y16.2) (fun e19 h3 => ?_)
  have h4 : UR rF_readExpr rA_readExpr m e19 := (UR_s h3 h2 rfl rfl)
  exact RP_some h4
def rF_caseNumber : List Nat := [7, 8, 9, 10, 11, 12]
def rA_caseNumber : List Nat := []
theorem u_rfl_caseNumber_54 (v3 : Int) (m : mR) : RP (rfl_caseNumber_54 v3 m) (fun z : Int × mR => UR rF_caseNumber rA_caseNumber m z.2) := by
  unfold rfl_caseNumber_54
  exact RP_some UR_0
theorem u_rfl_caseNumber_37 (v1 : Int) (v2 : Int) (v3 : Int) (m : mR) : RP (rfl_caseNumber_37 v1 v2 v3 m) (fun z : Int × mR => UR rF_caseNumber rA_caseNumber m z.2) := by
  unfold rfl_caseNumber_37
  refine RP_ite (fun h1 => ?_) (fun h1 => ?_)
  · skip
    refine RP_bndT (fun y2 => ?_)
    refine RP_bnd (u_rf_want y2 v2 m) (fun y4 h2 => ?_)
    have h3 : UR rF_caseNumber rA_caseNumber m y4.2 := (UR_s h2 UR_0 rfl rfl)
    exact RP_w (u_rfl_caseNumber_54 v3 y4.2) (fun z hz => (UR_s hz h3 rfl rfl))
  · skip
    exact RP_w (u_rfl_caseNumber_54 v3 m) (fun z hz => (UR_s hz UR_0 rfl rfl))
theorem u_rfl_caseNumber_21 (m : mR) : RP (rfl_caseNumber_21 m) (fun z : Int × mR => UR rF_caseNumber rA_caseNumber m z.2) := by
  unfold rfl_caseNumber_21
  exact RP_some UR_0
theorem u_rf_caseNumber (v1 : Int) (m : mR) : RP (rf_caseNumber v1 m) (fun z : Int × mR => UR rF_caseNumber rA_caseNumber m z.2) := by
  unfold rf_caseNumber
  refine RP_ite (fun h1 => ?_) (fun h1 => ?_)
  · skip
    refine RP_ite (fun h2 => ?_) (fun h2 => ?_)
    · skip
      refine RP_bnd (u_rf_next m) (fun y9 h3 => ?_)
      have h4 : UR rF_caseNumber rA_caseNumber m y9.2 := (UR_s h3 UR_0 rfl rfl)
      exact RP_w (u_rfl_caseNumber_37 v1 (m.1 8) (m.1 12) y9.2) (fun z hz => (UR_s hz h4 rfl rfl))
    · skip
      refine RP_bnd (u_rf_bad m) (fun y12 h5 => ?_)
      have h6 : UR rF_caseNumber rA_caseNumber m y12.2 := (UR_s h5 UR_0 rfl rfl)
      exact RP_w (u_rfl_caseNumber_21 y12.2) (fun z hz => (UR_s hz h6 rfl rfl))
  · skip
    exact RP_some UR_0
def rF_takeCase : List Nat := [7, 8, 9, 10, 11, 12, 13, 23]
def rA_takeCase : List Nat := [14, 15, 16, 17, 37, 38, 42, 45, 97, 98]
theorem u_rfl_takeCase_123 (v1 : Int) (m : mR) : RP (rfl_takeCase_123 v1 m) (fun z : Int × mR => UR rF_takeCase rA_takeCase m z.2) := by
  unfold rfl_takeCase_123
  exact RP_some (UR_m UR_0 rfl rfl (fun h => h))
theorem u_rfl_takeCase_116 (v1 : Int) (u1 : Int) (u2 : Int) (m : mR) : RP (rfl_takeCase_116 v1 u1 u2 m) (fun z : Int × mR => UR rF_takeCase rA_takeCase m z.2) := by
  unfold rfl_takeCase_116
  refine RP_bnd (u_rf_need 59 (mO m [] [(45, upI (m.2 45) u1 u2)])) (fun y1 h1 => ?_)
  have h2 : UR rF_takeCase rA_takeCase m y1.2 := (UR_s h1 (UR_m UR_0 rfl rfl (fun h => h)) rfl rfl)
  exact RP_w (u_rfl_takeCase_123 v1 y1.2) (fun z hz => (UR_s hz h2 rfl rfl))
theorem u_rfl_takeCase_107 (v1 : Int) (v2 : Int) (m : mR) : RP (rfl_takeCase_107 v1 v2 m) (fun z : Int × mR => UR rF_takeCase rA_takeCase m z.2) := by
  unfold rfl_takeCase_107
  refine RP_bnd (u_rf_stateHere m) (fun y4 h1 => ?_)
  have h2 : UR rF_takeCase rA_takeCase m y4.2 := (UR_s h1 UR_0 rfl rfl)
  exact RP_w (u_rfl_takeCase_116 v1 v2 y4.1 y4.2) (fun z hz => (UR_s hz h2 rfl rfl))
theorem u_rfl_takeCase_101 (v1 : Int) (v2 : Int) (m : mR) : RP (rfl_takeCase_101 v1 v2 m) (fun z : Int × mR => UR rF_takeCase rA_takeCase m z.2) := by
  unfold rfl_takeCase_101
  refine RP_bnd (u_rf_need 58 m) (fun y7 h1 => ?_)
  have h2 : UR rF_takeCase rA_takeCase m y7.2 := (UR_s h1 UR_0 rfl rfl)
  exact RP_w (u_rfl_takeCase_107 v1 v2 y7.2) (fun z hz => (UR_s hz h2 rfl rfl))
theorem u_rfl_takeCase_100 (v1 : Int) (v2 : Int) (u1 : Int) (u2 : Int) (m : mR) : RP (rfl_takeCase_100 v1 v2 u1 u2 m) (fun z : Int × mR => UR rF_takeCase rA_takeCase m z.2) := by
  unfold rfl_takeCase_100
  exact RP_w (u_rfl_takeCase_101 v1 v2 (mO m [] [(98, upI (m.2 98) u1 u2)])) (fun z hz => (UR_s hz (UR_m UR_0 rfl rfl (fun h => h)) rfl rfl))
theorem u_rfl_takeCase_85 (v1 : Int) (v2 : Int) (m : mR) : RP (rfl_takeCase_85 v1 v2 m) (fun z : Int × mR => UR rF_takeCase rA_takeCase m z.2) := by
  unfold rfl_takeCase_85
  refine RP_bnd (u_rf_caseNumber ((m.2 43) v1) m) (fun y10 h1 => ?_)
  have h2 : UR rF_takeCase rA_takeCase m y10.2 := (UR_s h1 UR_0 rfl rfl)
  exact RP_w (u_rfl_takeCase_100 v1 v2 v2 y10.1 y10.2) (fun z hz => (UR_s hz h2 rfl rfl))
theorem u_rfl_takeCase_55 (v1 : Int) (v2 : Int) (u1 : Int) (u2 : Int) (m : mR) : RP (rfl_takeCase_55 v1 v2 u1 u2 m) (fun z : Int × mR => UR rF_takeCase rA_takeCase m z.2) := by
  unfold rfl_takeCase_55
  refine RP_ite (fun h1 => ?_) (fun h1 => ?_)
  · skip
    refine RP_ite (fun h2 => ?_) (fun h2 => ?_)
    · skip
      refine RP_bnd (u_rf_next (mO m [] [(97, upI (m.2 97) u1 u2), (98, upI (m.2 98) v2 (-1))])) (fun y15 h3 => ?_)
      have h4 : UR rF_takeCase rA_takeCase m y15.2 := (UR_s h3 (UR_m UR_0 rfl rfl (fun h => h)) rfl rfl)
      exact RP_w (u_rfl_takeCase_85 v1 v2 y15.2) (fun z hz => (UR_s hz h4 rfl rfl))
    · skip
      exact RP_w (u_rfl_takeCase_101 v1 v2 (mO m [] [(97, upI (m.2 97) u1 u2), (98, upI (m.2 98) v2 (-1))])) (fun z hz => (UR_s hz (UR_m UR_0 rfl rfl (fun h => h)) rfl rfl))
  · skip
    exact RP_w (u_rfl_takeCase_101 v1 v2 (mO m [] [(97, upI (m.2 97) u1 u2), (98, upI (m.2 98) v2 (-1))])) (fun z hz => (UR_s hz (UR_m UR_0 rfl rfl (fun h => h)) rfl rfl))
theorem u_rfl_takeCase_20 (v1 : Int) (m : mR) : RP (rfl_takeCase_20 v1 m) (fun z : Int × mR => UR rF_takeCase rA_takeCase m z.2) := by
  unfold rfl_takeCase_20
  refine RP_ite (fun h1 => ?_) (fun h1 => ?_)
  · skip
    refine RP_bnd (u_rf_caseNumber ((m.2 43) v1) m) (fun y19 h2 => ?_)
    have h3 : UR rF_takeCase rA_takeCase m y19.2 := (UR_s h2 UR_0 rfl rfl)
    exact RP_w (u_rfl_takeCase_55 v1 (cut ((cut (8 * v1)) + ((m.2 42) v1))) (cut ((cut (8 * v1)) + ((m.2 42) v1))) y19.1 y19.2) (fun z hz => (UR_s hz h3 rfl rfl))
  · skip
    exact RP_some UR_0
theorem u_rf_takeCase (v1 : Int) (m : mR) : RP (rf_takeCase v1 m) (fun z : Int × mR => UR rF_takeCase rA_takeCase m z.2) := by
  unfold rf_takeCase
  refine RP_ite (fun h1 => ?_) (fun h1 => ?_)
  · skip
    refine RP_bnd (u_rf_wrong 4 (m.1 8) m) (fun y23 h2 => ?_)
    have h3 : UR rF_takeCase rA_takeCase m y23.2 := (UR_s h2 UR_0 rfl rfl)
    exact RP_w (u_rfl_takeCase_20 v1 y23.2) (fun z hz => (UR_s hz h3 rfl rfl))
  · skip
    exact RP_w (u_rfl_takeCase_20 v1 m) (fun z hz => (UR_s hz UR_0 rfl rfl))
def rF_takeSelect : List Nat := [7, 8, 9, 10, 11, 12, 13, 23, 28, 69, 70, 71, 72, 73, 74, 75]
def rA_takeSelect : List Nat := [14, 15, 16, 17, 37, 38, 42, 43, 44, 45, 65, 66, 67, 68, 76, 77, 78, 79, 80, 81, 82, 83, 84, 85, 86, 87, 88, 89, 90, 91, 92, 95, 96, 97, 98]
theorem u_rfl_takeSelect_96 (m : mR) : RP (rfl_takeSelect_96 m) (fun z : Int × mR => UR rF_takeSelect rA_takeSelect m z.2) := by
  unfold rfl_takeSelect_96
  refine RP_bnd (u_rf_need 125 m) (fun y2 h1 => ?_)
  have h2 : UR rF_takeSelect rA_takeSelect m y2.2 := (UR_s h1 UR_0 rfl rfl)
  exact RP_some h2
theorem u_rfl_takeSelect_89 (u1 : Int) (u2 : Int) (m : mR) : RP (rfl_takeSelect_89 u1 u2 m) (fun z : Int × mR => UR rF_takeSelect rA_takeSelect m z.2) := by
  unfold rfl_takeSelect_89
  refine RP_bnd (u_rf_need 59 (mO m [] [(44, upI (m.2 44) u1 u2)])) (fun y5 h1 => ?_)
  have h2 : UR rF_takeSelect rA_takeSelect m y5.2 := (UR_s h1 (UR_m UR_0 rfl rfl (fun h => h)) rfl rfl)
  exact RP_w (u_rfl_takeSelect_96 y5.2) (fun z hz => (UR_s hz h2 rfl rfl))
theorem u_rfl_takeSelect_80 (v1 : Int) (m : mR) : RP (rfl_takeSelect_80 v1 m) (fun z : Int × mR => UR rF_takeSelect rA_takeSelect m z.2) := by
  unfold rfl_takeSelect_80
  refine RP_bnd (u_rf_stateHere m) (fun y8 h1 => ?_)
  have h2 : UR rF_takeSelect rA_takeSelect m y8.2 := (UR_s h1 UR_0 rfl rfl)
  exact RP_w (u_rfl_takeSelect_89 v1 y8.1 y8.2) (fun z hz => (UR_s hz h2 rfl rfl))
theorem u_rfl_takeSelect_74 (v1 : Int) (m : mR) : RP (rfl_takeSelect_74 v1 m) (fun z : Int × mR => UR rF_takeSelect rA_takeSelect m z.2) := by
  unfold rfl_takeSelect_74
  refine RP_bnd (u_rf_need 58 m) (fun y11 h1 => ?_)
  have h2 : UR rF_takeSelect rA_takeSelect m y11.2 := (UR_s h1 UR_0 rfl rfl)
  exact RP_w (u_rfl_takeSelect_80 v1 y11.2) (fun z hz => (UR_s hz h2 rfl rfl))
theorem u_rfl_takeSelect_67 (v1 : Int) (m : mR) : RP (rfl_takeSelect_67 v1 m) (fun z : Int × mR => UR rF_takeSelect rA_takeSelect m z.2) := by
  unfold rfl_takeSelect_67
  refine RP_bnd (u_rf_need 308 m) (fun y14 h1 => ?_)
  have h2 : UR rF_takeSelect rA_takeSelect m y14.2 := (UR_s h1 UR_0 rfl rfl)
  exact RP_w (u_rfl_takeSelect_74 v1 y14.2) (fun z hz => (UR_s hz h2 rfl rfl))
theorem u_rfb_takeSelect_44 (v1 : Int) (s : mR) : RP (rfb_takeSelect_44 v1 s) (sel (fun z : (mR) => UR rF_takeSelect rA_takeSelect s z) (fun z : mR => UR rF_takeSelect rA_takeSelect s z)) := by
  unfold rfb_takeSelect_44
  refine RP_ite (fun h1 => ?_) (fun h1 => ?_)
  · skip
    refine RP_ite (fun h2 => ?_) (fun h2 => ?_)
    · skip
      refine RP_bnd (u_rf_takeCase v1 s) (fun y20 h3 => ?_)
      have h4 : UR rF_takeSelect rA_takeSelect s y20.2 := (UR_s h3 UR_0 rfl rfl)
      exact RP_some h4
    · skip
      exact RP_some UR_0
  · skip
    exact RP_some UR_0
theorem uw_rfb_takeSelect_44 (v1 : Int) (s : mR) : RP (whl (rfb_takeSelect_44 v1) s) (fun z : mR => UR rF_takeSelect rA_takeSelect s z) := RP_whl (I := fun q : mR => UR rF_takeSelect rA_takeSelect s q) (fun q hq => RP_w (u_rfb_takeSelect_44 v1 q) (sl_w (fun z hz => (UR_s hz hq rfl rfl)) (fun z hz => (UR_s hz hq rfl rfl)))) UR_0
theorem u_rfl_takeSelect_18 (v1 : Int) (m : mR) : RP (rfl_takeSelect_18 v1 m) (fun z : Int × mR => UR rF_takeSelect rA_takeSelect m z.2) := by
  unfold rfl_takeSelect_18
  refine RP_bnd (u_rf_need 123 (mO m [] [(43, upI (m.2 43) v1 (m.1 69)), (96, upI (m.2 96) v1 (m.1 28))])) (fun y23 h1 => ?_)
  have h2 : UR rF_takeSelect rA_takeSelect m y23.2 := (UR_s h1 (UR_m UR_0 rfl rfl (fun h => h)) rfl rfl)
  refine RP_bnd (uw_rfb_takeSelect_44 v1 y23.2) (fun e26 h3 => ?_)
  have h4 : UR rF_takeSelect rA_takeSelect m e26 := (UR_s h3 h2 rfl rfl)
  exact RP_w (u_rfl_takeSelect_67 v1 e26) (fun z hz => (UR_s hz h4 rfl rfl))
theorem u_rfl_takeSelect_4 (v1 : Int) (m : mR) : RP (rfl_takeSelect_4 v1 m) (fun z : Int × mR => UR rF_takeSelect rA_takeSelect m z.2) := by
  unfold rfl_takeSelect_4
  refine RP_bnd (u_rf_readExpr (mO m [] [(95, upI (m.2 95) v1 (m.1 28))])) (fun y29 h1 => ?_)
  have h2 : UR rF_takeSelect rA_takeSelect m y29.2 := (UR_s h1 (UR_m UR_0 rfl rfl (fun h => h)) rfl rfl)
  exact RP_w (u_rfl_takeSelect_18 v1 y29.2) (fun z hz => (UR_s hz h2 rfl rfl))
theorem u_rf_takeSelect (v1 : Int) (m : mR) : RP (rf_takeSelect v1 m) (fun z : Int × mR => UR rF_takeSelect rA_takeSelect m z.2) := by
  unfold rf_takeSelect
  refine RP_bnd (u_rf_next m) (fun y32 h1 => ?_)
  have h2 : UR rF_takeSelect rA_takeSelect m y32.2 := (UR_s h1 UR_0 rfl rfl)
  exact RP_w (u_rfl_takeSelect_4 v1 y32.2) (fun z hz => (UR_s hz h2 rfl rfl))
def rF_takeState : List Nat := [7, 8, 9, 10, 11, 12, 13, 23, 24, 28, 69, 70, 71, 72, 73, 74, 75]
def rA_takeState : List Nat := [14, 15, 16, 17, 37, 38, 39, 40, 41, 42, 43, 44, 45, 65, 66, 67, 68, 76, 77, 78, 79, 80, 81, 82, 83, 84, 85, 86, 87, 88, 89, 90, 91, 92, 94, 95, 96, 97, 98]
theorem u_rfl_takeState_337 (m : mR) : RP (rfl_takeState_337 m) (fun z : Int × mR => UR rF_takeState rA_takeState m z.2) := by
  unfold rfl_takeState_337
  refine RP_bnd (u_rf_need 125 m) (fun y2 h1 => ?_)
  have h2 : UR rF_takeState rA_takeState m y2.2 := (UR_s h1 UR_0 rfl rfl)
  exact RP_some h2
theorem u_rfl_takeState_305 (u1 : Int) (u2 : Int) (m : mR) : RP (rfl_takeState_305 u1 u2 m) (fun z : Int × mR => UR rF_takeState rA_takeState m z.2) := by
  unfold rfl_takeState_305
  refine RP_bnd (u_rf_need 59 (mO m [] [(44, upI (m.2 44) u1 u2)])) (fun y5 h1 => ?_)
  have h2 : UR rF_takeState rA_takeState m y5.2 := (UR_s h1 (UR_m UR_0 rfl rfl (fun h => h)) rfl rfl)
  exact RP_w (u_rfl_takeState_337 y5.2) (fun z hz => (UR_s hz h2 rfl rfl))
theorem u_rfl_takeState_296 (v3 : Int) (m : mR) : RP (rfl_takeState_296 v3 m) (fun z : Int × mR => UR rF_takeState rA_takeState m z.2) := by
  unfold rfl_takeState_296
  refine RP_bnd (u_rf_stateHere m) (fun y8 h1 => ?_)
  have h2 : UR rF_takeState rA_takeState m y8.2 := (UR_s h1 UR_0 rfl rfl)
  exact RP_w (u_rfl_takeState_305 v3 y8.1 y8.2) (fun z hz => (UR_s hz h2 rfl rfl))
theorem u_rfl_takeState_274 (v3 : Int) (m : mR) : RP (rfl_takeState_274 v3 m) (fun z : Int × mR => UR rF_takeState rA_takeState m z.2) := by
  unfold rfl_takeState_274
  refine RP_ite (fun h1 => ?_) (fun h1 => ?_)
  · skip
    refine RP_ite (fun h2 => ?_) (fun h2 => ?_)
    · skip
      refine RP_bnd (u_rf_next m) (fun y20 h3 => ?_)
      have h4 : UR rF_takeState rA_takeState m y20.2 := (UR_s h3 UR_0 rfl rfl)
      exact RP_w (u_rfl_takeState_296 v3 y20.2) (fun z hz => (UR_s hz h4 rfl rfl))
    · skip
      refine RP_ite (fun h5 => ?_) (fun h5 => ?_)
      · skip
        refine RP_bnd (u_rf_takeSelect v3 m) (fun y17 h6 => ?_)
        have h7 : UR rF_takeState rA_takeState m y17.2 := (UR_s h6 UR_0 rfl rfl)
        exact RP_w (u_rfl_takeState_337 y17.2) (fun z hz => (UR_s hz h7 rfl rfl))
      · skip
        refine RP_bnd (u_rf_bad m) (fun y14 h8 => ?_)
        have h9 : UR rF_takeState rA_takeState m y14.2 := (UR_s h8 UR_0 rfl rfl)
        exact RP_w (u_rfl_takeState_337 y14.2) (fun z hz => (UR_s hz h9 rfl rfl))
  · skip
    exact RP_some UR_0
theorem u_rfb_takeState_249 (v3 : Int) (s : mR) : RP (rfb_takeState_249 v3 s) (sel (fun z : (mR) => UR rF_takeState rA_takeState s z) (fun z : mR => UR rF_takeState rA_takeState s z)) := by
  unfold rfb_takeState_249
  refine RP_ite (fun h1 => ?_) (fun h1 => ?_)
  · skip
    refine RP_ite (fun h2 => ?_) (fun h2 => ?_)
    · skip
      refine RP_bnd (u_rf_takeExtract v3 s) (fun y26 h3 => ?_)
      have h4 : UR rF_takeState rA_takeState s y26.2 := (UR_s h3 UR_0 rfl rfl)
      exact RP_some h4
    · skip
      exact RP_some UR_0
  · skip
    exact RP_some UR_0
theorem uw_rfb_takeState_249 (v3 : Int) (s : mR) : RP (whl (rfb_takeState_249 v3) s) (fun z : mR => UR rF_takeState rA_takeState s z) := RP_whl (I := fun q : mR => UR rF_takeState rA_takeState s q) (fun q hq => RP_w (u_rfb_takeState_249 v3 q) (sl_w (fun z hz => (UR_s hz hq rfl rfl)) (fun z hz => (UR_s hz hq rfl rfl)))) UR_0
theorem u_rfl_takeState_243 (v3 : Int) (m : mR) : RP (rfl_takeState_243 v3 m) (fun z : Int × mR => UR rF_takeState rA_takeState m z.2) := by
  unfold rfl_takeState_243
  refine RP_bnd (u_rf_need 123 m) (fun y29 h1 => ?_)
  have h2 : UR rF_takeState rA_takeState m y29.2 := (UR_s h1 UR_0 rfl rfl)
  refine RP_bnd (uw_rfb_takeState_249 v3 y29.2) (fun e32 h3 => ?_)
  have h4 : UR rF_takeState rA_takeState m e32 := (UR_s h3 h2 rfl rfl)
  exact RP_w (u_rfl_takeState_274 v3 e32) (fun z hz => (UR_s hz h4 rfl rfl))
theorem u_rfl_takeState_179 (v2 : Int) (m : mR) : RP (rfl_takeState_179 v2 m) (fun z : Int × mR => UR rF_takeState rA_takeState m z.2) := by
  unfold rfl_takeState_179
  refine RP_bnd (u_rf_next (mO m [(24, cut ((m.1 24) + 1))] [(38, upI (m.2 38) v2 (m.1 24)), (39, upI (m.2 39) (m.1 24) v2), (40, upI (m.2 40) (m.1 24) (m.1 8)), (41, upI (m.2 41) (m.1 24) 0), (42, upI (m.2 42) (m.1 24) 0), (43, upI (m.2 43) (m.1 24) 0)])) (fun y35 h1 => ?_)
  have h2 : UR rF_takeState rA_takeState m y35.2 := (UR_s h1 (UR_m UR_0 rfl rfl (fun h => h)) rfl rfl)
  exact RP_w (u_rfl_takeState_243 (m.1 24) y35.2) (fun z hz => (UR_s hz h2 rfl rfl))
theorem u_rfl_takeState_169 (v2 : Int) (m : mR) : RP (rfl_takeState_169 v2 m) (fun z : Int × mR => UR rF_takeState rA_takeState m z.2) := by
  unfold rfl_takeState_169
  exact RP_w (u_rfl_takeState_179 v2 (mO m [(23, cut ((m.1 23) + 1))] [])) (fun z hz => (UR_s hz (UR_m UR_0 rfl rfl (fun h => h)) rfl rfl))
theorem u_rfl_takeState_140 (v1 : Int) (v2 : Int) (m : mR) : RP (rfl_takeState_140 v1 v2 m) (fun z : Int × mR => UR rF_takeState rA_takeState m z.2) := by
  unfold rfl_takeState_140
  refine RP_ite (fun h1 => ?_) (fun h1 => ?_)
  · skip
    refine RP_ite (fun h2 => ?_) (fun h2 => ?_)
    · skip
      refine RP_bnd (u_rf_enter 5 v2 (mO m [] [(37, upI (m.2 37) v2 (m.1 8))])) (fun y40 h3 => ?_)
      have h4 : UR rF_takeState rA_takeState m y40.2 := (UR_s h3 (UR_m UR_0 rfl rfl (fun h => h)) rfl rfl)
      exact RP_w (u_rfl_takeState_169 v2 y40.2) (fun z hz => (UR_s hz h4 rfl rfl))
    · skip
      exact RP_w (u_rfl_takeState_179 v2 m) (fun z hz => (UR_s hz UR_0 rfl rfl))
  · skip
    exact RP_some UR_0
theorem u_rfl_takeState_133 (v1 : Int) (v2 : Int) (u1 : Int) (m : mR) : RP (rfl_takeState_133 v1 v2 u1 m) (fun z : Int × mR => UR rF_takeState rA_takeState m z.2) := by
  unfold rfl_takeState_133
  refine RP_bnd (u_rf_wrong u1 (m.1 8) m) (fun y43 h1 => ?_)
  have h2 : UR rF_takeState rA_takeState m y43.2 := (UR_s h1 UR_0 rfl rfl)
  exact RP_w (u_rfl_takeState_140 v1 v2 y43.2) (fun z hz => (UR_s hz h2 rfl rfl))
theorem u_rfl_takeState_113 (v1 : Int) (v2 : Int) (m : mR) : RP (rfl_takeState_113 v1 v2 m) (fun z : Int × mR => UR rF_takeState rA_takeState m z.2) := by
  unfold rfl_takeState_113
  refine RP_ite (fun h1 => ?_) (fun h1 => ?_)
  · skip
    exact RP_w (u_rfl_takeState_140 v1 v2 m) (fun z hz => (UR_s hz UR_0 rfl rfl))
  · skip
    refine RP_ite (fun h2 => ?_) (fun h2 => ?_)
    · skip
      exact RP_w (u_rfl_takeState_133 v1 v2 4 m) (fun z hz => (UR_s hz UR_0 rfl rfl))
    · skip
      exact RP_w (u_rfl_takeState_133 v1 v2 3 m) (fun z hz => (UR_s hz UR_0 rfl rfl))
theorem u_rfl_takeState_77 (v1 : Int) (v2 : Int) (u1 : Int) (m : mR) : RP (rfl_takeState_77 v1 v2 u1 m) (fun z : Int × mR => UR rF_takeState rA_takeState m z.2) := by
  unfold rfl_takeState_77
  refine RP_bnd (u_rf_wrong u1 (m.1 8) m) (fun y48 h1 => ?_)
  have h2 : UR rF_takeState rA_takeState m y48.2 := (UR_s h1 UR_0 rfl rfl)
  exact RP_w (u_rfl_takeState_140 v1 v2 y48.2) (fun z hz => (UR_s hz h2 rfl rfl))
theorem u_rfl_takeState_76 (v1 : Int) (v2 : Int) (m : mR) : RP (rfl_takeState_76 v1 v2 m) (fun z : Int × mR => UR rF_takeState rA_takeState m z.2) := by
  unfold rfl_takeState_76
  exact RP_w (u_rfl_takeState_77 v1 v2 3 m) (fun z hz => (UR_s hz UR_0 rfl rfl))
theorem u_rfl_takeState_58 (v1 : Int) (v2 : Int) (m : mR) : RP (rfl_takeState_58 v1 v2 m) (fun z : Int × mR => UR rF_takeState rA_takeState m z.2) := by
  unfold rfl_takeState_58
  refine RP_ite (fun h1 => ?_) (fun h1 => ?_)
  · skip
    exact RP_w (u_rfl_takeState_76 v1 v2 m) (fun z hz => (UR_s hz UR_0 rfl rfl))
  · skip
    refine RP_ite (fun h2 => ?_) (fun h2 => ?_)
    · skip
      exact RP_w (u_rfl_takeState_77 v1 v2 4 m) (fun z hz => (UR_s hz UR_0 rfl rfl))
    · skip
      exact RP_w (u_rfl_takeState_76 v1 v2 m) (fun z hz => (UR_s hz UR_0 rfl rfl))
theorem u_rfl_takeState_4 (m : mR) : RP (rfl_takeState_4 m) (fun z : Int × mR => UR rF_takeState rA_takeState m z.2) := by
  unfold rfl_takeState_4
  refine RP_ite (fun h1 => ?_) (fun h1 => ?_)
  · skip
    refine RP_ite (fun h2 => ?_) (fun h2 => ?_)
    · skip
      refine RP_bndT (fun y55 => ?_)
      refine RP_ite (fun h3 => ?_) (fun h3 => ?_)
      · skip
        refine RP_bndT (fun y63 => ?_)
        refine RP_ite (fun h4 => ?_) (fun h4 => ?_)
        · skip
          exact RP_w (u_rfl_takeState_58 y55 y63 m) (fun z hz => (UR_s hz UR_0 rfl rfl))
        · skip
          refine RP_ite (fun h5 => ?_) (fun h5 => ?_)
          · skip
            exact RP_w (u_rfl_takeState_140 y55 y63 m) (fun z hz => (UR_s hz UR_0 rfl rfl))
          · skip
            exact RP_w (u_rfl_takeState_58 y55 y63 m) (fun z hz => (UR_s hz UR_0 rfl rfl))
      · skip
        refine RP_ite (fun h6 => ?_) (fun h6 => ?_)
        · skip
          refine RP_ite (fun h7 => ?_) (fun h7 => ?_)
          · skip
            refine RP_bnd (u_rf_wrong 4 (m.1 8) m) (fun y60 h8 => ?_)
            have h9 : UR rF_takeState rA_takeState m y60.2 := (UR_s h8 UR_0 rfl rfl)
            exact RP_w (u_rfl_takeState_140 y55 (m.1 23) y60.2) (fun z hz => (UR_s hz h9 rfl rfl))
          · skip
            exact RP_w (u_rfl_takeState_113 y55 (m.1 23) m) (fun z hz => (UR_s hz UR_0 rfl rfl))
        · skip
          exact RP_w (u_rfl_takeState_113 y55 (m.1 23) m) (fun z hz => (UR_s hz UR_0 rfl rfl))
    · skip
      refine RP_bnd (u_rf_bad m) (fun y67 h10 => ?_)
      have h11 : UR rF_takeState rA_takeState m y67.2 := (UR_s h10 UR_0 rfl rfl)
      exact RP_some h11
  · skip
    exact RP_some UR_0
theorem u_rf_takeState (m : mR) : RP (rf_takeState m) (fun z : Int × mR => UR rF_takeState rA_takeState m z.2) := by
  unfold rf_takeState
  refine RP_bnd (u_rf_next m) (fun y70 h1 => ?_)
  have h2 : UR rF_takeState rA_takeState m y70.2 := (UR_s h1 UR_0 rfl rfl)
  exact RP_w (u_rfl_takeState_4 y70.2) (fun z hz => (UR_s hz h2 rfl rfl))
def rF_takeParameter : List Nat := [7, 8, 9, 10, 11, 12]
def rA_takeParameter : List Nat := [46, 47, 48, 49]
theorem u_rfl_takeParameter_153 (v1 : Int) (u1 : Int) (u2 : Int) (m : mR) : RP (rfl_takeParameter_153 v1 u1 u2 m) (fun z : Int × mR => UR rF_takeParameter rA_takeParameter m z.2) := by
  unfold rfl_takeParameter_153
  exact RP_some (UR_m UR_0 rfl rfl (fun h => h))
theorem u_rfl_takeParameter_141 (v1 : Int) (v2 : Int) (m : mR) : RP (rfl_takeParameter_141 v1 v2 m) (fun z : Int × mR => UR rF_takeParameter rA_takeParameter m z.2) := by
  unfold rfl_takeParameter_141
  refine RP_bnd (u_rf_number 1 64 m) (fun y2 h1 => ?_)
  have h2 : UR rF_takeParameter rA_takeParameter m y2.2 := (UR_s h1 UR_0 rfl rfl)
  exact RP_w (u_rfl_takeParameter_153 v1 v2 y2.1 y2.2) (fun z hz => (UR_s hz h2 rfl rfl))
theorem u_rfl_takeParameter_135 (v1 : Int) (v2 : Int) (m : mR) : RP (rfl_takeParameter_135 v1 v2 m) (fun z : Int × mR => UR rF_takeParameter rA_takeParameter m z.2) := by
  unfold rfl_takeParameter_135
  refine RP_bnd (u_rf_need 58 m) (fun y5 h1 => ?_)
  have h2 : UR rF_takeParameter rA_takeParameter m y5.2 := (UR_s h1 UR_0 rfl rfl)
  exact RP_w (u_rfl_takeParameter_141 v1 v2 y5.2) (fun z hz => (UR_s hz h2 rfl rfl))
theorem u_rfl_takeParameter_103 (v1 : Int) (v2 : Int) (m : mR) : RP (rfl_takeParameter_103 v1 v2 m) (fun z : Int × mR => UR rF_takeParameter rA_takeParameter m z.2) := by
  unfold rfl_takeParameter_103
  refine RP_ite (fun h1 => ?_) (fun h1 => ?_)
  · skip
    refine RP_bnd (u_rf_next (mO m [] [(47, upI (m.2 47) v2 (m.1 8)), (48, upI (m.2 48) v2 (m.1 9))])) (fun y9 h2 => ?_)
    have h3 : UR rF_takeParameter rA_takeParameter m y9.2 := (UR_s h2 (UR_m UR_0 rfl rfl (fun h => h)) rfl rfl)
    exact RP_w (u_rfl_takeParameter_135 v1 v2 y9.2) (fun z hz => (UR_s hz h3 rfl rfl))
  · skip
    exact RP_some UR_0
theorem u_rfl_takeParameter_97 (v1 : Int) (v2 : Int) (v3 : Int) (m : mR) : RP (rfl_takeParameter_97 v1 v2 v3 m) (sel (fun z : (Int × mR) => UR rF_takeParameter rA_takeParameter m z.2) (fun z : mR => UR rF_takeParameter rA_takeParameter m z)) := by
  unfold rfl_takeParameter_97
  exact RP_some UR_0
theorem u_rfb_takeParameter_57 (v1 : Int) (v2 : Int) (s : Int × mR) : RP (rfb_takeParameter_57 v1 v2 s) (sel (fun z : (Int × mR) => UR rF_takeParameter rA_takeParameter s.2 z.2) (fun z : mR => UR rF_takeParameter rA_takeParameter s.2 z)) := by
  unfold rfb_takeParameter_57
  refine RP_ite (fun h1 => ?_) (fun h1 => ?_)
  · skip
    exact RP_some UR_0
  · skip
    refine RP_ite (fun h2 => ?_) (fun h2 => ?_)
    · skip
      refine RP_bndT (fun y15 => ?_)
      refine RP_ite (fun h3 => ?_) (fun h3 => ?_)
      · skip
        exact RP_w (u_rfl_takeParameter_97 v1 v2 s.1 s.2) (sl_w (fun z hz => (UR_s hz UR_0 rfl rfl)) (fun z hz => (UR_s hz UR_0 rfl rfl)))
      · skip
        refine RP_bnd (u_rf_wrong 3 (s.2.1 8) s.2) (fun y18 h4 => ?_)
        have h5 : UR rF_takeParameter rA_takeParameter s.2 y18.2 := (UR_s h4 UR_0 rfl rfl)
        exact RP_w (u_rfl_takeParameter_97 v1 v2 s.1 y18.2) (sl_w (fun z hz => (UR_s hz h5 rfl rfl)) (fun z hz => (UR_s hz h5 rfl rfl)))
    · skip
      exact RP_some UR_0
theorem uw_rfb_takeParameter_57 (v1 : Int) (v2 : Int) (s : Int × mR) : RP (whl (rfb_takeParameter_57 v1 v2) s) (fun z : mR => UR rF_takeParameter rA_takeParameter s.2 z) := RP_whl (I := fun q : Int × mR => UR rF_takeParameter rA_takeParameter s.2 q.2) (fun q hq => RP_w (u_rfb_takeParameter_57 v1 v2 q) (sl_w (fun z hz => (UR_s hz hq rfl rfl)) (fun z hz => (UR_s hz hq rfl rfl)))) UR_0
theorem u_rfl_takeParameter_53 (v1 : Int) (v2 : Int) (m : mR) : RP (rfl_takeParameter_53 v1 v2 m) (fun z : Int × mR => UR rF_takeParameter rA_takeParameter m z.2) := by
  unfold rfl_takeParameter_53
  refine RP_bnd (uw_rfb_takeParameter_57 v1 v2 (cut (4 * v1), m)) (fun e21 h1 => ?_)
  have h2 : UR rF_takeParameter rA_takeParameter m e21 := (UR_s h1 UR_0 rfl rfl)
  exact RP_w (u_rfl_takeParameter_103 v1 v2 e21) (fun z hz => (UR_s hz h2 rfl rfl))
theorem u_rf_takeParameter (v1 : Int) (m : mR) : RP (rf_takeParameter v1 m) (fun z : Int × mR => UR rF_takeParameter rA_takeParameter m z.2) := by
  unfold rf_takeParameter
  refine RP_ite (fun h1 => ?_) (fun h1 => ?_)
  · skip
    refine RP_ite (fun h2 => ?_) (fun h2 => ?_)
    · skip
      refine RP_ite (fun h3 => ?_) (fun h3 => ?_)
      · skip
        refine RP_bnd (u_rf_wrong 4 (m.1 8) m) (fun y27 h4 => ?_)
        have h5 : UR rF_takeParameter rA_takeParameter m y27.2 := (UR_s h4 UR_0 rfl rfl)
        exact RP_w (u_rfl_takeParameter_53 v1 (cut ((cut (4 * v1)) + ((m.2 46) v1))) y27.2) (fun z hz => (UR_s hz h5 rfl rfl))
      · skip
        exact RP_w (u_rfl_takeParameter_53 v1 (cut ((cut (4 * v1)) + ((m.2 46) v1))) m) (fun z hz => (UR_s hz UR_0 rfl rfl))
    · skip
      refine RP_bnd (u_rf_bad m) (fun y30 h6 => ?_)
      have h7 : UR rF_takeParameter rA_takeParameter m y30.2 := (UR_s h6 UR_0 rfl rfl)
      exact RP_w (u_rfl_takeParameter_53 v1 (cut ((cut (4 * v1)) + ((m.2 46) v1))) y30.2) (fun z hz => (UR_s hz h7 rfl rfl))
  · skip
    exact RP_some UR_0
def rF_takePlace : List Nat := [7, 8, 9, 10, 11, 12, 100]
def rA_takePlace : List Nat := []
theorem u_rfl_takePlace_123 (u0 : Int) (m : mR) : RP (rfl_takePlace_123 u0 m) (fun z : Int × mR => UR rF_takePlace rA_takePlace m z.2) := by
  unfold rfl_takePlace_123
  refine RP_ite (fun h1 => ?_) (fun h1 => ?_)
  · skip
    refine RP_bndT (fun y2 => ?_)
    exact RP_some (UR_m UR_0 rfl rfl (fun h => h))
  · skip
    exact RP_some UR_0
theorem u_rfl_takePlace_118 (v2 : Int) (m : mR) : RP (rfl_takePlace_118 v2 m) (fun z : Int × mR => UR rF_takePlace rA_takePlace m z.2) := by
  unfold rfl_takePlace_118
  refine RP_bnd (u_rf_takeField v2 m) (fun y4 h1 => ?_)
  have h2 : UR rF_takePlace rA_takePlace m y4.2 := (UR_s h1 UR_0 rfl rfl)
  exact RP_w (u_rfl_takePlace_123 y4.1 y4.2) (fun z hz => (UR_s hz h2 rfl rfl))
theorem u_rfl_takePlace_86 (v1 : Int) (v2 : Int) (m : mR) : RP (rfl_takePlace_86 v1 v2 m) (fun z : Int × mR => UR rF_takePlace rA_takePlace m z.2) := by
  unfold rfl_takePlace_86
  refine RP_ite (fun h1 => ?_) (fun h1 => ?_)
  · skip
    refine RP_ite (fun h2 => ?_) (fun h2 => ?_)
    · skip
      exact RP_some (UR_m UR_0 rfl rfl (fun h => h))
    · skip
      refine RP_bnd (u_rf_need 46 m) (fun y9 h3 => ?_)
      have h4 : UR rF_takePlace rA_takePlace m y9.2 := (UR_s h3 UR_0 rfl rfl)
      exact RP_w (u_rfl_takePlace_118 v2 y9.2) (fun z hz => (UR_s hz h4 rfl rfl))
  · skip
    exact RP_some UR_0
theorem u_rfl_takePlace_82 (v1 : Int) (v2 : Int) (m : mR) : RP (rfl_takePlace_82 v1 v2 m) (fun z : Int × mR => UR rF_takePlace rA_takePlace m z.2) := by
  unfold rfl_takePlace_82
  refine RP_bnd (u_rf_next m) (fun y12 h1 => ?_)
  have h2 : UR rF_takePlace rA_takePlace m y12.2 := (UR_s h1 UR_0 rfl rfl)
  exact RP_w (u_rfl_takePlace_86 v1 v2 y12.2) (fun z hz => (UR_s hz h2 rfl rfl))
theorem u_rfl_takePlace_72 (v1 : Int) (v2 : Int) (m : mR) : RP (rfl_takePlace_72 v1 v2 m) (fun z : Int × mR => UR rF_takePlace rA_takePlace m z.2) := by
  unfold rfl_takePlace_72
  refine RP_bnd (u_rf_wrong 6 (m.1 8) m) (fun y15 h1 => ?_)
  have h2 : UR rF_takePlace rA_takePlace m y15.2 := (UR_s h1 UR_0 rfl rfl)
  exact RP_w (u_rfl_takePlace_82 v1 v2 y15.2) (fun z hz => (UR_s hz h2 rfl rfl))
theorem u_rfl_takePlace_62 (v1 : Int) (v2 : Int) (m : mR) : RP (rfl_takePlace_62 v1 v2 m) (fun z : Int × mR => UR rF_takePlace rA_takePlace m z.2) := by
  unfold rfl_takePlace_62
  refine RP_ite (fun h1 => ?_) (fun h1 => ?_)
  · skip
    refine RP_ite (fun h2 => ?_) (fun h2 => ?_)
    · skip
      exact RP_w (u_rfl_takePlace_82 v1 v2 m) (fun z hz => (UR_s hz UR_0 rfl rfl))
    · skip
      exact RP_w (u_rfl_takePlace_72 v1 v2 m) (fun z hz => (UR_s hz UR_0 rfl rfl))
  · skip
    exact RP_w (u_rfl_takePlace_82 v1 v2 m) (fun z hz => (UR_s hz UR_0 rfl rfl))
theorem u_rfl_takePlace_51 (v1 : Int) (u0 : Int) (m : mR) : RP (rfl_takePlace_51 v1 u0 m) (fun z : Int × mR => UR rF_takePlace rA_takePlace m z.2) := by
  unfold rfl_takePlace_51
  refine RP_ite (fun h1 => ?_) (fun h1 => ?_)
  · skip
    exact RP_w (u_rfl_takePlace_62 v1 u0 m) (fun z hz => (UR_s hz UR_0 rfl rfl))
  · skip
    refine RP_ite (fun h2 => ?_) (fun h2 => ?_)
    · skip
      exact RP_w (u_rfl_takePlace_62 v1 u0 m) (fun z hz => (UR_s hz UR_0 rfl rfl))
    · skip
      exact RP_w (u_rfl_takePlace_72 v1 u0 m) (fun z hz => (UR_s hz UR_0 rfl rfl))
theorem u_rfl_takePlace_43 (v1 : Int) (m : mR) : RP (rfl_takePlace_43 v1 m) (fun z : Int × mR => UR rF_takePlace rA_takePlace m z.2) := by
  unfold rfl_takePlace_43
  refine RP_bndT (fun y22 => ?_)
  exact RP_w (u_rfl_takePlace_51 v1 y22 m) (fun z hz => (UR_s hz UR_0 rfl rfl))
theorem u_rf_takePlace (m : mR) : RP (rf_takePlace m) (fun z : Int × mR => UR rF_takePlace rA_takePlace m z.2) := by
  unfold rf_takePlace
  refine RP_ite (fun h1 => ?_) (fun h1 => ?_)
  · skip
    refine RP_ite (fun h2 => ?_) (fun h2 => ?_)
    · skip
      refine RP_bndT (fun y26 => ?_)
      refine RP_ite (fun h3 => ?_) (fun h3 => ?_)
      · skip
        exact RP_w (u_rfl_takePlace_43 y26 (mO m [(100, 1)] [])) (fun z hz => (UR_s hz (UR_m UR_0 rfl rfl (fun h => h)) rfl rfl))
      · skip
        refine RP_ite (fun h4 => ?_) (fun h4 => ?_)
        · skip
          exact RP_w (u_rfl_takePlace_43 y26 (mO m [(100, 1)] [])) (fun z hz => (UR_s hz (UR_m UR_0 rfl rfl (fun h => h)) rfl rfl))
        · skip
          exact RP_w (u_rfl_takePlace_51 y26 0 (mO m [(100, 1)] [])) (fun z hz => (UR_s hz (UR_m UR_0 rfl rfl (fun h => h)) rfl rfl))
    · skip
      refine RP_bnd (u_rf_bad (mO m [(100, 1)] [])) (fun y30 h5 => ?_)
      have h6 : UR rF_takePlace rA_takePlace m y30.2 := (UR_s h5 (UR_m UR_0 rfl rfl (fun h => h)) rfl rfl)
      exact RP_some h6
  · skip
    exact RP_some (UR_m UR_0 rfl rfl (fun h => h))
def rF_exprOf : List Nat := [7, 8, 9, 10, 11, 12, 28, 69, 70, 71, 72, 73, 74, 75]
def rA_exprOf : List Nat := [65, 66, 67, 68, 76, 77, 78, 79, 80, 81, 82, 83, 84, 85, 86, 87, 88, 89, 90, 91, 92]
theorem u_rfl_exprOf_43 (u1 : Int) (m : mR) : RP (rfl_exprOf_43 u1 m) (fun z : Int × mR => UR rF_exprOf rA_exprOf m z.2) := by
  unfold rfl_exprOf_43
  refine RP_bnd (u_rf_want u1 (m.1 70) m) (fun y1 h1 => ?_)
  have h2 : UR rF_exprOf rA_exprOf m y1.2 := (UR_s h1 UR_0 rfl rfl)
  exact RP_some h2
theorem u_rfl_exprOf_4 (v1 : Int) (m : mR) : RP (rfl_exprOf_4 v1 m) (fun z : Int × mR => UR rF_exprOf rA_exprOf m z.2) := by
  unfold rfl_exprOf_4
  refine RP_ite (fun h1 => ?_) (fun h1 => ?_)
  · skip
    refine RP_ite (fun h2 => ?_) (fun h2 => ?_)
    · skip
      refine RP_ite (fun h3 => ?_) (fun h3 => ?_)
      · skip
        exact RP_w (u_rfl_exprOf_43 1 m) (fun z hz => (UR_s hz UR_0 rfl rfl))
      · skip
        exact RP_w (u_rfl_exprOf_43 0 m) (fun z hz => (UR_s hz UR_0 rfl rfl))
    · skip
      refine RP_bndT (fun y7 => ?_)
      exact RP_w (u_rfl_exprOf_43 y7 m) (fun z hz => (UR_s hz UR_0 rfl rfl))
  · skip
    exact RP_some UR_0
theorem u_rf_exprOf (v1 : Int) (m : mR) : RP (rf_exprOf v1 m) (fun z : Int × mR => UR rF_exprOf rA_exprOf m z.2) := by
  unfold rf_exprOf
  refine RP_bnd (u_rf_readExpr m) (fun y9 h1 => ?_)
  have h2 : UR rF_exprOf rA_exprOf m y9.2 := (UR_s h1 UR_0 rfl rfl)
  exact RP_w (u_rfl_exprOf_4 v1 y9.2) (fun z hz => (UR_s hz h2 rfl rfl))
def rF_takeWorth : List Nat := [7, 8, 9, 10, 11, 12, 28, 69, 70, 71, 72, 73, 74, 75]
def rA_takeWorth : List Nat := [65, 66, 67, 68, 76, 77, 78, 79, 80, 81, 82, 83, 84, 85, 86, 87, 88, 89, 90, 91, 92, 107, 108]
theorem u_rfl_takeWorth_22 (v1 : Int) (m : mR) : RP (rfl_takeWorth_22 v1 m) (fun z : Int × mR => UR rF_takeWorth rA_takeWorth m z.2) := by
  unfold rfl_takeWorth_22
  exact RP_some (UR_m UR_0 rfl rfl (fun h => h))
theorem u_rf_takeWorth (v1 : Int) (v2 : Int) (m : mR) : RP (rf_takeWorth v1 v2 m) (fun z : Int × mR => UR rF_takeWorth rA_takeWorth m z.2) := by
  unfold rf_takeWorth
  refine RP_ite (fun h1 => ?_) (fun h1 => ?_)
  · skip
    refine RP_bnd (u_rf_exprOf v2 (mO m [] [(107, upI (m.2 107) v1 (m.1 28))])) (fun y2 h2 => ?_)
    have h3 : UR rF_takeWorth rA_takeWorth m y2.2 := (UR_s h2 (UR_m UR_0 rfl rfl (fun h => h)) rfl rfl)
    exact RP_w (u_rfl_takeWorth_22 v1 y2.2) (fun z hz => (UR_s hz h3 rfl rfl))
  · skip
    exact RP_w (u_rfl_takeWorth_22 v1 (mO m [] [(107, upI (m.2 107) v1 (m.1 28))])) (fun z hz => (UR_s hz (UR_m UR_0 rfl rfl (fun h => h)) rfl rfl))
def rF_takeIndex : List Nat := [7, 8, 9, 10, 11, 12, 28, 69, 70, 71, 72, 73, 74, 75]
def rA_takeIndex : List Nat := [65, 66, 67, 68, 76, 77, 78, 79, 80, 81, 82, 83, 84, 85, 86, 87, 88, 89, 90, 91, 92, 105, 106]
theorem u_rfl_takeIndex_27 (v1 : Int) (m : mR) : RP (rfl_takeIndex_27 v1 m) (fun z : Int × mR => UR rF_takeIndex rA_takeIndex m z.2) := by
  unfold rfl_takeIndex_27
  refine RP_bnd (u_rf_need 93 (mO m [] [(106, upI (m.2 106) v1 (m.1 28))])) (fun y1 h1 => ?_)
  have h2 : UR rF_takeIndex rA_takeIndex m y1.2 := (UR_s h1 (UR_m UR_0 rfl rfl (fun h => h)) rfl rfl)
  exact RP_some h2
theorem u_rfl_takeIndex_6 (v1 : Int) (m : mR) : RP (rfl_takeIndex_6 v1 m) (fun z : Int × mR => UR rF_takeIndex rA_takeIndex m z.2) := by
  unfold rfl_takeIndex_6
  refine RP_ite (fun h1 => ?_) (fun h1 => ?_)
  · skip
    refine RP_bnd (u_rf_readExpr (mO m [] [(105, upI (m.2 105) v1 (m.1 28))])) (fun y5 h2 => ?_)
    have h3 : UR rF_takeIndex rA_takeIndex m y5.2 := (UR_s h2 (UR_m UR_0 rfl rfl (fun h => h)) rfl rfl)
    exact RP_w (u_rfl_takeIndex_27 v1 y5.2) (fun z hz => (UR_s hz h3 rfl rfl))
  · skip
    exact RP_w (u_rfl_takeIndex_27 v1 (mO m [] [(105, upI (m.2 105) v1 (m.1 28))])) (fun z hz => (UR_s hz (UR_m UR_0 rfl rfl (fun h => h)) rfl rfl))
theorem u_rf_takeIndex (v1 : Int) (m : mR) : RP (rf_takeIndex v1 m) (fun z : Int × mR => UR rF_takeIndex rA_takeIndex m z.2) := by
  unfold rf_takeIndex
  refine RP_bnd (u_rf_need 91 m) (fun y8 h1 => ?_)
  have h2 : UR rF_takeIndex rA_takeIndex m y8.2 := (UR_s h1 UR_0 rfl rfl)
  exact RP_w (u_rfl_takeIndex_6 v1 y8.2) (fun z hz => (UR_s hz h2 rfl rfl))
