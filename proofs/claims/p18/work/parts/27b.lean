def rF_wantUnit : List Nat := [7, 8, 9, 10, 11, 12, 28, 69, 70, 71, 72, 73, 74, 75]
def rA_wantUnit : List Nat := [65, 66, 67, 68, 76, 77, 78, 79, 80]
def F_rfl_wantUnit_208 : List Nat := [10, 11, 73, 74, 75]
def A_rfl_wantUnit_208 : List Nat := [76, 77, 78, 79, 80]
theorem u_rfl_wantUnit_208 (m : mR) : RP (rfl_wantUnit_208 m) (fun z : Int × mR => UR F_rfl_wantUnit_208 A_rfl_wantUnit_208 m z.2) := by
  unfold rfl_wantUnit_208
  refine RP_bnd (u_rf_beginChoice m) (fun y1 h1 => ?_)
  have h2 : UR F_rfl_wantUnit_208 A_rfl_wantUnit_208 m y1.2 := (UR_s h1 UR_0 rfl rfl)
  exact RP_some h2
def F_rfl_wantUnit_204 : List Nat := [7, 8, 9, 10, 11, 12, 73, 74, 75]
def A_rfl_wantUnit_204 : List Nat := [76, 77, 78, 79, 80]
theorem u_rfl_wantUnit_204 (m : mR) : RP (rfl_wantUnit_204 m) (fun z : Int × mR => UR F_rfl_wantUnit_204 A_rfl_wantUnit_204 m z.2) := by
  unfold rfl_wantUnit_204
  refine RP_bnd (u_rf_next m) (fun y4 h1 => ?_)
  have h2 : UR F_rfl_wantUnit_204 A_rfl_wantUnit_204 m y4.2 := (UR_s h1 UR_0 rfl rfl)
  exact RP_w (u_rfl_wantUnit_208 y4.2) (fun z hz => (UR_s hz h2 rfl rfl))
def F_rfl_wantUnit_179 : List Nat := [69, 70, 71, 72, 75]
def A_rfl_wantUnit_179 : List Nat := []
theorem u_rfl_wantUnit_179 (v1 : Int) (m : mR) : RP (rfl_wantUnit_179 v1 m) (fun z : Int × mR => UR F_rfl_wantUnit_179 A_rfl_wantUnit_179 m z.2) := by
  unfold rfl_wantUnit_179
  refine RP_bnd (u_rf_atom 1 v1 m) (fun y7 h1 => ?_)
  have h2 : UR F_rfl_wantUnit_179 A_rfl_wantUnit_179 m y7.2 := (UR_s h1 UR_0 rfl rfl)
  exact RP_some h2
def F_rfl_wantUnit_168 : List Nat := [10, 11, 28, 69, 70, 71, 72, 75]
def A_rfl_wantUnit_168 : List Nat := [65, 66, 67, 68]
theorem u_rfl_wantUnit_168 (v1 : Int) (u0 : Int) (m : mR) : RP (rfl_wantUnit_168 v1 u0 m) (fun z : Int × mR => UR F_rfl_wantUnit_168 A_rfl_wantUnit_168 m z.2) := by
  unfold rfl_wantUnit_168
  refine RP_bnd (u_rf_node 404 1 u0 0 m) (fun y10 h1 => ?_)
  have h2 : UR F_rfl_wantUnit_168 A_rfl_wantUnit_168 m y10.2 := (UR_s h1 UR_0 rfl rfl)
  exact RP_w (u_rfl_wantUnit_179 v1 y10.2) (fun z hz => (UR_s hz h2 rfl rfl))
def F_rfl_wantUnit_163 : List Nat := [7, 8, 9, 10, 11, 12, 28, 69, 70, 71, 72, 75]
def A_rfl_wantUnit_163 : List Nat := [65, 66, 67, 68]
theorem u_rfl_wantUnit_163 (v1 : Int) (m : mR) : RP (rfl_wantUnit_163 v1 m) (fun z : Int × mR => UR F_rfl_wantUnit_163 A_rfl_wantUnit_163 m z.2) := by
  unfold rfl_wantUnit_163
  refine RP_bnd (u_rf_oldName 2 m) (fun y13 h1 => ?_)
  have h2 : UR F_rfl_wantUnit_163 A_rfl_wantUnit_163 m y13.2 := (UR_s h1 UR_0 rfl rfl)
  exact RP_w (u_rfl_wantUnit_168 v1 y13.1 y13.2) (fun z hz => (UR_s hz h2 rfl rfl))
def F_rfl_wantUnit_120 : List Nat := [71, 72]
def A_rfl_wantUnit_120 : List Nat := []
theorem u_rfl_wantUnit_120 (v2 : Int) (m : mR) : RP (rfl_wantUnit_120 v2 m) (fun z : Int × mR => UR F_rfl_wantUnit_120 A_rfl_wantUnit_120 m z.2) := by
  unfold rfl_wantUnit_120
  exact RP_some (UR_m UR_0 rfl rfl (fun h => h))
def F_rfl_wantUnit_113 : List Nat := [69, 70, 71, 72, 75]
def A_rfl_wantUnit_113 : List Nat := []
theorem u_rfl_wantUnit_113 (v1 : Int) (v2 : Int) (m : mR) : RP (rfl_wantUnit_113 v1 v2 m) (fun z : Int × mR => UR F_rfl_wantUnit_113 A_rfl_wantUnit_113 m z.2) := by
  unfold rfl_wantUnit_113
  refine RP_bnd (u_rf_atom 64 v1 m) (fun y16 h1 => ?_)
  have h2 : UR F_rfl_wantUnit_113 A_rfl_wantUnit_113 m y16.2 := (UR_s h1 UR_0 rfl rfl)
  exact RP_w (u_rfl_wantUnit_120 v2 y16.2) (fun z hz => (UR_s hz h2 rfl rfl))
def F_rfl_wantUnit_102 : List Nat := [10, 11, 28, 69, 70, 71, 72, 75]
def A_rfl_wantUnit_102 : List Nat := [65, 66, 67, 68]
theorem u_rfl_wantUnit_102 (v1 : Int) (v2 : Int) (m : mR) : RP (rfl_wantUnit_102 v1 v2 m) (fun z : Int × mR => UR F_rfl_wantUnit_102 A_rfl_wantUnit_102 m z.2) := by
  unfold rfl_wantUnit_102
  refine RP_bnd (u_rf_node 400 64 0 v2 m) (fun y19 h1 => ?_)
  have h2 : UR F_rfl_wantUnit_102 A_rfl_wantUnit_102 m y19.2 := (UR_s h1 UR_0 rfl rfl)
  exact RP_w (u_rfl_wantUnit_113 v1 v2 y19.2) (fun z hz => (UR_s hz h2 rfl rfl))
def F_rfl_wantUnit_78 : List Nat := [7, 8, 9, 10, 11, 12]
def A_rfl_wantUnit_78 : List Nat := []
theorem u_rfl_wantUnit_78 (m : mR) : RP (rfl_wantUnit_78 m) (fun z : Int × mR => UR F_rfl_wantUnit_78 A_rfl_wantUnit_78 m z.2) := by
  unfold rfl_wantUnit_78
  refine RP_bnd (u_rf_next m) (fun y22 h1 => ?_)
  have h2 : UR F_rfl_wantUnit_78 A_rfl_wantUnit_78 m y22.2 := (UR_s h1 UR_0 rfl rfl)
  exact RP_some h2
def F_rfl_wantUnit_50 : List Nat := [7, 8, 9, 10, 11, 12, 73, 74]
def A_rfl_wantUnit_50 : List Nat := [76, 77, 78, 79, 80]
theorem u_rfl_wantUnit_50 (v1 : Int) (m : mR) : RP (rfl_wantUnit_50 v1 m) (fun z : Int × mR => UR F_rfl_wantUnit_50 A_rfl_wantUnit_50 m z.2) := by
  unfold rfl_wantUnit_50
  refine RP_ite (fun h1 => ?_) (fun h1 => ?_)
  · skip
    refine RP_bnd (u_rf_open 1 v1 (m.1 7) (mO m [(74, cut ((m.1 74) + 1))] [])) (fun y26 h2 => ?_)
    have h3 : UR F_rfl_wantUnit_50 A_rfl_wantUnit_50 m y26.2 := (UR_s h2 (UR_m UR_0 rfl rfl (fun h => h)) rfl rfl)
    exact RP_w (u_rfl_wantUnit_78 y26.2) (fun z hz => (UR_s hz h3 rfl rfl))
  · skip
    exact RP_some UR_0
def F_rfl_wantUnit_32 : List Nat := [7, 8, 9, 10, 11, 12, 73, 74]
def A_rfl_wantUnit_32 : List Nat := [76, 77, 78, 79, 80]
theorem u_rfl_wantUnit_32 (v1 : Int) (m : mR) : RP (rfl_wantUnit_32 v1 m) (fun z : Int × mR => UR F_rfl_wantUnit_32 A_rfl_wantUnit_32 m z.2) := by
  unfold rfl_wantUnit_32
  refine RP_ite (fun h1 => ?_) (fun h1 => ?_)
  · skip
    refine RP_bnd (u_rf_wrong 4 (m.1 8) m) (fun y30 h2 => ?_)
    have h3 : UR F_rfl_wantUnit_32 A_rfl_wantUnit_32 m y30.2 := (UR_s h2 UR_0 rfl rfl)
    exact RP_w (u_rfl_wantUnit_50 v1 y30.2) (fun z hz => (UR_s hz h3 rfl rfl))
  · skip
    exact RP_w (u_rfl_wantUnit_50 v1 m) (fun z hz => (UR_s hz UR_0 rfl rfl))
theorem u_rf_wantUnit (m : mR) : RP (rf_wantUnit m) (fun z : Int × mR => UR rF_wantUnit rA_wantUnit m z.2) := by
  unfold rf_wantUnit
  refine RP_ite (fun h1 => ?_) (fun h1 => ?_)
  · skip
    exact RP_w (u_rfl_wantUnit_32 (m.1 8) m) (fun z hz => (UR_s hz UR_0 rfl rfl))
  · skip
    refine RP_ite (fun h2 => ?_) (fun h2 => ?_)
    · skip
      exact RP_w (u_rfl_wantUnit_32 (m.1 8) m) (fun z hz => (UR_s hz UR_0 rfl rfl))
    · skip
      refine RP_ite (fun h3 => ?_) (fun h3 => ?_)
      · skip
        exact RP_w (u_rfl_wantUnit_32 (m.1 8) m) (fun z hz => (UR_s hz UR_0 rfl rfl))
      · skip
        refine RP_ite (fun h4 => ?_) (fun h4 => ?_)
        · skip
          refine RP_bnd (u_rf_next m) (fun y52 h5 => ?_)
          have h6 : UR rF_wantUnit rA_wantUnit m y52.2 := (UR_s h5 UR_0 rfl rfl)
          exact RP_w (u_rfl_wantUnit_102 (m.1 8) (m.1 12) y52.2) (fun z hz => (UR_s hz h6 rfl rfl))
        · skip
          refine RP_ite (fun h7 => ?_) (fun h7 => ?_)
          · skip
            refine RP_bnd (u_rf_takeName (m.1 8) m) (fun y49 h8 => ?_)
            have h9 : UR rF_wantUnit rA_wantUnit m y49.2 := (UR_s h8 UR_0 rfl rfl)
            exact RP_some h9
          · skip
            refine RP_ite (fun h10 => ?_) (fun h10 => ?_)
            · skip
              refine RP_bnd (u_rf_next m) (fun y46 h11 => ?_)
              have h12 : UR rF_wantUnit rA_wantUnit m y46.2 := (UR_s h11 UR_0 rfl rfl)
              exact RP_w (u_rfl_wantUnit_163 (m.1 8) y46.2) (fun z hz => (UR_s hz h12 rfl rfl))
            · skip
              refine RP_ite (fun h13 => ?_) (fun h13 => ?_)
              · skip
                refine RP_bnd (u_rf_open 2 (m.1 8) 0 m) (fun y43 h14 => ?_)
                have h15 : UR rF_wantUnit rA_wantUnit m y43.2 := (UR_s h14 UR_0 rfl rfl)
                exact RP_w (u_rfl_wantUnit_204 y43.2) (fun z hz => (UR_s hz h15 rfl rfl))
              · skip
                refine RP_bnd (u_rf_bad m) (fun y40 h16 => ?_)
                have h17 : UR rF_wantUnit rA_wantUnit m y40.2 := (UR_s h16 UR_0 rfl rfl)
                exact RP_some h17
def rF_want : List Nat := [10, 11]
def rA_want : List Nat := []
theorem u_rf_want (v1 : Int) (v2 : Int) (m : mR) : RP (rf_want v1 v2 m) (fun z : Int × mR => UR rF_want rA_want m z.2) := by
  unfold rf_want
  refine RP_ite (fun h1 => ?_) (fun h1 => ?_)
  · skip
    refine RP_bnd (u_rf_wrong 7 v2 m) (fun y2 h2 => ?_)
    have h3 : UR rF_want rA_want m y2.2 := (UR_s h2 UR_0 rfl rfl)
    exact RP_some h3
  · skip
    exact RP_some UR_0
def rF_after : List Nat := [7, 8, 9, 10, 11, 12, 28, 69, 70, 71, 72, 75]
def rA_after : List Nat := [65, 66, 67, 68]
def F_rfl_after_207 : List Nat := [69, 70, 71, 72]
def A_rfl_after_207 : List Nat := []
theorem u_rfl_after_207 (v1 : Int) (m : mR) : RP (rfl_after_207 v1 m) (fun z : Int × mR => UR F_rfl_after_207 A_rfl_after_207 m z.2) := by
  unfold rfl_after_207
  refine RP_bnd (u_rf_unit v1 (m.1 70) m) (fun y1 h1 => ?_)
  have h2 : UR F_rfl_after_207 A_rfl_after_207 m y1.2 := (UR_s h1 UR_0 rfl rfl)
  exact RP_some h2
def F_rfl_after_196 : List Nat := [10, 11, 28, 69, 70, 71, 72]
def A_rfl_after_196 : List Nat := [65, 66, 67, 68]
theorem u_rfl_after_196 (u0 : Int) (m : mR) : RP (rfl_after_196 u0 m) (fun z : Int × mR => UR F_rfl_after_196 A_rfl_after_196 m z.2) := by
  unfold rfl_after_196
  refine RP_bnd (u_rf_node 406 u0 0 0 m) (fun y4 h1 => ?_)
  have h2 : UR F_rfl_after_196 A_rfl_after_196 m y4.2 := (UR_s h1 UR_0 rfl rfl)
  exact RP_w (u_rfl_after_207 u0 y4.2) (fun z hz => (UR_s hz h2 rfl rfl))
def F_rfl_after_189 : List Nat := [7, 8, 9, 10, 11, 12, 28, 69, 70, 71, 72]
def A_rfl_after_189 : List Nat := [65, 66, 67, 68]
theorem u_rfl_after_189 (m : mR) : RP (rfl_after_189 m) (fun z : Int × mR => UR F_rfl_after_189 A_rfl_after_189 m z.2) := by
  unfold rfl_after_189
  refine RP_bnd (u_rf_number 1 64 m) (fun y7 h1 => ?_)
  have h2 : UR F_rfl_after_189 A_rfl_after_189 m y7.2 := (UR_s h1 UR_0 rfl rfl)
  exact RP_w (u_rfl_after_196 y7.1 y7.2) (fun z hz => (UR_s hz h2 rfl rfl))
def F_rfl_after_159 : List Nat := [69, 70, 71, 72]
def A_rfl_after_159 : List Nat := []
theorem u_rfl_after_159 (v2 : Int) (v4 : Int) (v6 : Int) (m : mR) : RP (rfl_after_159 v2 v4 v6 m) (fun z : Int × mR => UR F_rfl_after_159 A_rfl_after_159 m z.2) := by
  unfold rfl_after_159
  refine RP_bnd (u_rf_unit (cut ((cut (cutl (v2 - v4))) + 1)) v6 m) (fun y10 h1 => ?_)
  have h2 : UR F_rfl_after_159 A_rfl_after_159 m y10.2 := (UR_s h1 UR_0 rfl rfl)
  exact RP_some h2
def F_rfl_after_127 : List Nat := [10, 11, 28, 69, 70, 71, 72]
def A_rfl_after_127 : List Nat := [65, 66, 67, 68]
theorem u_rfl_after_127 (v2 : Int) (v4 : Int) (m : mR) : RP (rfl_after_127 v2 v4 m) (fun z : Int × mR => UR F_rfl_after_127 A_rfl_after_127 m z.2) := by
  unfold rfl_after_127
  refine RP_ite (fun h1 => ?_) (fun h1 => ?_)
  · skip
    refine RP_bnd (u_rf_node 405 (cut ((cut (cutl (v2 - v4))) + 1)) (cut v4) 0 m) (fun y14 h2 => ?_)
    have h3 : UR F_rfl_after_127 A_rfl_after_127 m y14.2 := (UR_s h2 UR_0 rfl rfl)
    exact RP_w (u_rfl_after_159 v2 v4 (m.1 70) y14.2) (fun z hz => (UR_s hz h3 rfl rfl))
  · skip
    exact RP_some UR_0
def F_rfl_after_121 : List Nat := [7, 8, 9, 10, 11, 12, 28, 69, 70, 71, 72]
def A_rfl_after_121 : List Nat := [65, 66, 67, 68]
theorem u_rfl_after_121 (v2 : Int) (v4 : Int) (m : mR) : RP (rfl_after_121 v2 v4 m) (fun z : Int × mR => UR F_rfl_after_121 A_rfl_after_121 m z.2) := by
  unfold rfl_after_121
  refine RP_bnd (u_rf_need 93 m) (fun y17 h1 => ?_)
  have h2 : UR F_rfl_after_121 A_rfl_after_121 m y17.2 := (UR_s h1 UR_0 rfl rfl)
  exact RP_w (u_rfl_after_127 v2 v4 y17.2) (fun z hz => (UR_s hz h2 rfl rfl))
def F_rfl_after_117 : List Nat := [7, 8, 9, 10, 11, 12, 28, 69, 70, 71, 72]
def A_rfl_after_117 : List Nat := [65, 66, 67, 68]
theorem u_rfl_after_117 (v1 : Int) (v2 : Int) (v4 : Int) (u1 : Int) (m : mR) : RP (rfl_after_117 v1 v2 v4 u1 m) (fun z : Int × mR => UR F_rfl_after_117 A_rfl_after_117 m z.2) := by
  unfold rfl_after_117
  refine RP_bnd (u_rf_want u1 v1 m) (fun y20 h1 => ?_)
  have h2 : UR F_rfl_after_117 A_rfl_after_117 m y20.2 := (UR_s h1 UR_0 rfl rfl)
  exact RP_w (u_rfl_after_121 v2 v4 y20.2) (fun z hz => (UR_s hz h2 rfl rfl))
def F_rfl_after_116 : List Nat := [7, 8, 9, 10, 11, 12, 28, 69, 70, 71, 72]
def A_rfl_after_116 : List Nat := [65, 66, 67, 68]
theorem u_rfl_after_116 (v1 : Int) (v2 : Int) (v4 : Int) (m : mR) : RP (rfl_after_116 v1 v2 v4 m) (fun z : Int × mR => UR F_rfl_after_116 A_rfl_after_116 m z.2) := by
  unfold rfl_after_116
  exact RP_w (u_rfl_after_117 v1 v2 v4 0 m) (fun z hz => (UR_s hz UR_0 rfl rfl))
def F_rfl_after_74 : List Nat := [7, 8, 9, 10, 11, 12, 28, 69, 70, 71, 72]
def A_rfl_after_74 : List Nat := [65, 66, 67, 68]
theorem u_rfl_after_74 (v1 : Int) (v2 : Int) (v4 : Int) (m : mR) : RP (rfl_after_74 v1 v2 v4 m) (fun z : Int × mR => UR F_rfl_after_74 A_rfl_after_74 m z.2) := by
  unfold rfl_after_74
  refine RP_ite (fun h1 => ?_) (fun h1 => ?_)
  · skip
    refine RP_ite (fun h2 => ?_) (fun h2 => ?_)
    · skip
      exact RP_w (u_rfl_after_116 v1 v2 v4 m) (fun z hz => (UR_s hz UR_0 rfl rfl))
    · skip
      refine RP_ite (fun h3 => ?_) (fun h3 => ?_)
      · skip
        exact RP_w (u_rfl_after_116 v1 v2 v4 m) (fun z hz => (UR_s hz UR_0 rfl rfl))
      · skip
        refine RP_ite (fun h4 => ?_) (fun h4 => ?_)
        · skip
          exact RP_w (u_rfl_after_116 v1 v2 v4 m) (fun z hz => (UR_s hz UR_0 rfl rfl))
        · skip
          refine RP_ite (fun h5 => ?_) (fun h5 => ?_)
          · skip
            exact RP_w (u_rfl_after_116 v1 v2 v4 m) (fun z hz => (UR_s hz UR_0 rfl rfl))
          · skip
            exact RP_w (u_rfl_after_117 v1 v2 v4 1 m) (fun z hz => (UR_s hz UR_0 rfl rfl))
  · skip
    exact RP_w (u_rfl_after_121 v2 v4 m) (fun z hz => (UR_s hz UR_0 rfl rfl))
def F_rfl_after_64 : List Nat := [7, 8, 9, 10, 11, 12, 28, 69, 70, 71, 72]
def A_rfl_after_64 : List Nat := [65, 66, 67, 68]
theorem u_rfl_after_64 (v1 : Int) (v2 : Int) (m : mR) : RP (rfl_after_64 v1 v2 m) (fun z : Int × mR => UR F_rfl_after_64 A_rfl_after_64 m z.2) := by
  unfold rfl_after_64
  refine RP_bnd (u_rf_next m) (fun y28 h1 => ?_)
  have h2 : UR F_rfl_after_64 A_rfl_after_64 m y28.2 := (UR_s h1 UR_0 rfl rfl)
  exact RP_w (u_rfl_after_74 v1 v2 (m.1 12) y28.2) (fun z hz => (UR_s hz h2 rfl rfl))
def F_rfl_after_45 : List Nat := [7, 8, 9, 10, 11, 12, 28, 69, 70, 71, 72]
def A_rfl_after_45 : List Nat := [65, 66, 67, 68]
theorem u_rfl_after_45 (v1 : Int) (v2 : Int) (m : mR) : RP (rfl_after_45 v1 v2 m) (fun z : Int × mR => UR F_rfl_after_45 A_rfl_after_45 m z.2) := by
  unfold rfl_after_45
  refine RP_ite (fun h1 => ?_) (fun h1 => ?_)
  · skip
    refine RP_ite (fun h2 => ?_) (fun h2 => ?_)
    · skip
      exact RP_w (u_rfl_after_64 v1 v2 m) (fun z hz => (UR_s hz UR_0 rfl rfl))
    · skip
      refine RP_bnd (u_rf_bad m) (fun y33 h3 => ?_)
      have h4 : UR F_rfl_after_45 A_rfl_after_45 m y33.2 := (UR_s h3 UR_0 rfl rfl)
      exact RP_w (u_rfl_after_64 v1 v2 y33.2) (fun z hz => (UR_s hz h4 rfl rfl))
  · skip
    exact RP_w (u_rfl_after_64 v1 v2 m) (fun z hz => (UR_s hz UR_0 rfl rfl))
def F_rfl_after_39 : List Nat := [7, 8, 9, 10, 11, 12, 28, 69, 70, 71, 72]
def A_rfl_after_39 : List Nat := [65, 66, 67, 68]
theorem u_rfl_after_39 (v1 : Int) (v2 : Int) (m : mR) : RP (rfl_after_39 v1 v2 m) (fun z : Int × mR => UR F_rfl_after_39 A_rfl_after_39 m z.2) := by
  unfold rfl_after_39
  refine RP_bnd (u_rf_need 58 m) (fun y36 h1 => ?_)
  have h2 : UR F_rfl_after_39 A_rfl_after_39 m y36.2 := (UR_s h1 UR_0 rfl rfl)
  exact RP_w (u_rfl_after_45 v1 v2 y36.2) (fun z hz => (UR_s hz h2 rfl rfl))
def F_rfl_after_30 : List Nat := [7, 8, 9, 10, 11, 12, 28, 69, 70, 71, 72]
def A_rfl_after_30 : List Nat := [65, 66, 67, 68]
theorem u_rfl_after_30 (v1 : Int) (m : mR) : RP (rfl_after_30 v1 m) (fun z : Int × mR => UR F_rfl_after_30 A_rfl_after_30 m z.2) := by
  unfold rfl_after_30
  refine RP_bnd (u_rf_next m) (fun y39 h1 => ?_)
  have h2 : UR F_rfl_after_30 A_rfl_after_30 m y39.2 := (UR_s h1 UR_0 rfl rfl)
  exact RP_w (u_rfl_after_39 v1 (m.1 12) y39.2) (fun z hz => (UR_s hz h2 rfl rfl))
def F_rfl_after_13 : List Nat := [7, 8, 9, 10, 11, 12, 28, 69, 70, 71, 72]
def A_rfl_after_13 : List Nat := [65, 66, 67, 68]
theorem u_rfl_after_13 (m : mR) : RP (rfl_after_13 m) (fun z : Int × mR => UR F_rfl_after_13 A_rfl_after_13 m z.2) := by
  unfold rfl_after_13
  refine RP_ite (fun h1 => ?_) (fun h1 => ?_)
  · skip
    exact RP_w (u_rfl_after_30 (m.1 8) m) (fun z hz => (UR_s hz UR_0 rfl rfl))
  · skip
    refine RP_bnd (u_rf_bad m) (fun y43 h2 => ?_)
    have h3 : UR F_rfl_after_13 A_rfl_after_13 m y43.2 := (UR_s h2 UR_0 rfl rfl)
    exact RP_w (u_rfl_after_30 (m.1 8) y43.2) (fun z hz => (UR_s hz h3 rfl rfl))
theorem u_rf_after (m : mR) : RP (rf_after m) (fun z : Int × mR => UR rF_after rA_after m z.2) := by
  unfold rf_after
  refine RP_ite (fun h1 => ?_) (fun h1 => ?_)
  · skip
    refine RP_bnd (u_rf_next m) (fun y51 h2 => ?_)
    have h3 : UR rF_after rA_after m y51.2 := (UR_s h2 UR_0 rfl rfl)
    exact RP_w (u_rfl_after_13 y51.2) (fun z hz => (UR_s hz h3 rfl rfl))
  · skip
    refine RP_ite (fun h4 => ?_) (fun h4 => ?_)
    · skip
      refine RP_bnd (u_rf_next m) (fun y48 h5 => ?_)
      have h6 : UR rF_after rA_after m y48.2 := (UR_s h5 UR_0 rfl rfl)
      exact RP_w (u_rfl_after_189 y48.2) (fun z hz => (UR_s hz h6 rfl rfl))
    · skip
      exact RP_some (UR_m UR_0 rfl rfl (fun h => h))
def rF_wantBit : List Nat := [10, 11]
def rA_wantBit : List Nat := []
def F_rfl_wantBit_31 : List Nat := [10, 11]
def A_rfl_wantBit_31 : List Nat := []
theorem u_rfl_wantBit_31 (v5 : Int) (u1 : Int) (m : mR) : RP (rfl_wantBit_31 v5 u1 m) (fun z : Int × mR => UR F_rfl_wantBit_31 A_rfl_wantBit_31 m z.2) := by
  unfold rfl_wantBit_31
  refine RP_bnd (u_rf_want u1 v5 m) (fun y1 h1 => ?_)
  have h2 : UR F_rfl_wantBit_31 A_rfl_wantBit_31 m y1.2 := (UR_s h1 UR_0 rfl rfl)
  exact RP_some h2
theorem u_rf_wantBit (v1 : Int) (v2 : Int) (v3 : Int) (v5 : Int) (m : mR) : RP (rf_wantBit v1 v2 v3 v5 m) (fun z : Int × mR => UR rF_wantBit rA_wantBit m z.2) := by
  unfold rf_wantBit
  refine RP_ite (fun h1 => ?_) (fun h1 => ?_)
  · skip
    refine RP_ite (fun h2 => ?_) (fun h2 => ?_)
    · skip
      exact RP_w (u_rfl_wantBit_31 v5 1 m) (fun z hz => (UR_s hz UR_0 rfl rfl))
    · skip
      exact RP_w (u_rfl_wantBit_31 v5 0 m) (fun z hz => (UR_s hz UR_0 rfl rfl))
  · skip
    refine RP_ite (fun h3 => ?_) (fun h3 => ?_)
    · skip
      exact RP_w (u_rfl_wantBit_31 v5 1 m) (fun z hz => (UR_s hz UR_0 rfl rfl))
    · skip
      exact RP_w (u_rfl_wantBit_31 v5 0 m) (fun z hz => (UR_s hz UR_0 rfl rfl))
def rF_common : List Nat := [10, 11]
def rA_common : List Nat := []
def F_rfl_common_63 : List Nat := [10, 11]
def A_rfl_common_63 : List Nat := []
theorem u_rfl_common_63 (v1 : Int) (v10 : Int) (u1 : Int) (m : mR) : RP (rfl_common_63 v1 v10 u1 m) (fun z : Int × mR => UR F_rfl_common_63 A_rfl_common_63 m z.2) := by
  unfold rfl_common_63
  refine RP_bnd (u_rf_want u1 v10 m) (fun y1 h1 => ?_)
  have h2 : UR F_rfl_common_63 A_rfl_common_63 m y1.2 := (UR_s h1 UR_0 rfl rfl)
  exact RP_some h2
def F_rfl_common_12 : List Nat := [10, 11]
def A_rfl_common_12 : List Nat := []
theorem u_rfl_common_12 (v1 : Int) (v2 : Int) (v3 : Int) (v5 : Int) (v6 : Int) (v7 : Int) (v8 : Int) (v10 : Int) (m : mR) : RP (rfl_common_12 v1 v2 v3 v5 v6 v7 v8 v10 m) (fun z : Int × mR => UR F_rfl_common_12 A_rfl_common_12 m z.2) := by
  unfold rfl_common_12
  refine RP_ite (fun h1 => ?_) (fun h1 => ?_)
  · skip
    refine RP_ite (fun h2 => ?_) (fun h2 => ?_)
    · skip
      refine RP_ite (fun h3 => ?_) (fun h3 => ?_)
      · skip
        exact RP_w (u_rfl_common_63 v1 v10 1 m) (fun z hz => (UR_s hz UR_0 rfl rfl))
      · skip
        exact RP_w (u_rfl_common_63 v1 v10 0 m) (fun z hz => (UR_s hz UR_0 rfl rfl))
    · skip
      refine RP_bndT (fun y7 => ?_)
      refine RP_bnd (u_rf_want y7 v10 m) (fun y9 h4 => ?_)
      have h5 : UR F_rfl_common_12 A_rfl_common_12 m y9.2 := (UR_s h4 UR_0 rfl rfl)
      exact RP_some h5
  · skip
    refine RP_bndT (fun y12 => ?_)
    refine RP_bnd (u_rf_want y12 v5 m) (fun y14 h6 => ?_)
    have h7 : UR F_rfl_common_12 A_rfl_common_12 m y14.2 := (UR_s h6 UR_0 rfl rfl)
    exact RP_some h7
theorem u_rf_common (v1 : Int) (v2 : Int) (v3 : Int) (v5 : Int) (v6 : Int) (v7 : Int) (v8 : Int) (v10 : Int) (m : mR) : RP (rf_common v1 v2 v3 v5 v6 v7 v8 v10 m) (fun z : Int × mR => UR rF_common rA_common m z.2) := by
  unfold rf_common
  refine RP_ite (fun h1 => ?_) (fun h1 => ?_)
  · skip
    exact RP_w (u_rfl_common_12 v1 v2 v3 v5 v6 v7 v8 v10 m) (fun z hz => (UR_s hz UR_0 rfl rfl))
  · skip
    refine RP_ite (fun h2 => ?_) (fun h2 => ?_)
    · skip
      exact RP_w (u_rfl_common_12 v1 v2 v3 v5 v6 v7 v8 v10 m) (fun z hz => (UR_s hz UR_0 rfl rfl))
    · skip
      exact RP_some UR_0
def rF_join : List Nat := [10, 11, 28, 69, 70, 71, 72]
def rA_join : List Nat := [65, 66, 67, 68, 80]
def F_rfl_join_278 : List Nat := [69, 70, 71, 72]
def A_rfl_join_278 : List Nat := []
theorem u_rfl_join_278 (v2 : Int) (v3 : Int) (m : mR) : RP (rfl_join_278 v2 v3 m) (fun z : Int × mR => UR F_rfl_join_278 A_rfl_join_278 m z.2) := by
  unfold rfl_join_278
  refine RP_bnd (u_rf_unit v2 v3 m) (fun y1 h1 => ?_)
  have h2 : UR F_rfl_join_278 A_rfl_join_278 m y1.2 := (UR_s h1 UR_0 rfl rfl)
  exact RP_some h2
def F_rfl_join_261 : List Nat := [10, 11, 28, 69, 70, 71, 72]
def A_rfl_join_261 : List Nat := [65, 66, 67, 68, 80]
theorem u_rfl_join_261 (v1 : Int) (v2 : Int) (v3 : Int) (v4 : Int) (v5 : Int) (m : mR) : RP (rfl_join_261 v1 v2 v3 v4 v5 m) (fun z : Int × mR => UR F_rfl_join_261 A_rfl_join_261 m z.2) := by
  unfold rfl_join_261
  refine RP_bnd (u_rf_node v4 v2 v5 0 (mO m [] [(80, upI (m.2 80) v1 (-1))])) (fun y4 h1 => ?_)
  have h2 : UR F_rfl_join_261 A_rfl_join_261 m y4.2 := (UR_s h1 (UR_m UR_0 rfl rfl (fun h => h)) rfl rfl)
  exact RP_w (u_rfl_join_278 v2 v3 y4.2) (fun z hz => (UR_s hz h2 rfl rfl))
def F_rfl_join_260 : List Nat := [10, 11, 28, 69, 70, 71, 72]
def A_rfl_join_260 : List Nat := [65, 66, 67, 68, 80]
theorem u_rfl_join_260 (v1 : Int) (v3 : Int) (v4 : Int) (v5 : Int) (u0 : Int) (m : mR) : RP (rfl_join_260 v1 v3 v4 v5 u0 m) (fun z : Int × mR => UR F_rfl_join_260 A_rfl_join_260 m z.2) := by
  unfold rfl_join_260
  exact RP_w (u_rfl_join_261 v1 u0 v3 v4 v5 m) (fun z hz => (UR_s hz UR_0 rfl rfl))
def F_rfl_join_241 : List Nat := [10, 11, 28, 69, 70, 71, 72]
def A_rfl_join_241 : List Nat := [65, 66, 67, 68, 80]
theorem u_rfl_join_241 (v1 : Int) (v3 : Int) (v4 : Int) (v5 : Int) (u0 : Int) (m : mR) : RP (rfl_join_241 v1 v3 v4 v5 u0 m) (fun z : Int × mR => UR F_rfl_join_241 A_rfl_join_241 m z.2) := by
  unfold rfl_join_241
  refine RP_bndT (fun y7 => ?_)
  refine RP_ite (fun h1 => ?_) (fun h1 => ?_)
  · skip
    exact RP_w (u_rfl_join_260 v1 v3 v4 v5 1 m) (fun z hz => (UR_s hz UR_0 rfl rfl))
  · skip
    exact RP_w (u_rfl_join_260 v1 v3 v4 v5 u0 m) (fun z hz => (UR_s hz UR_0 rfl rfl))
def F_rfl_join_207 : List Nat := [10, 11, 28, 69, 70, 71, 72]
def A_rfl_join_207 : List Nat := [65, 66, 67, 68, 80]
theorem u_rfl_join_207 (v1 : Int) (v2 : Int) (v3 : Int) (v4 : Int) (v5 : Int) (m : mR) : RP (rfl_join_207 v1 v2 v3 v4 v5 m) (fun z : Int × mR => UR F_rfl_join_207 A_rfl_join_207 m z.2) := by
  unfold rfl_join_207
  refine RP_bnd (u_rf_common v2 ((m.2 83) v1) ((m.2 84) v1) v3 (m.1 69) (m.1 71) (m.1 72) (m.1 70) m) (fun y10 h1 => ?_)
  have h2 : UR F_rfl_join_207 A_rfl_join_207 m y10.2 := (UR_s h1 UR_0 rfl rfl)
  exact RP_w (u_rfl_join_241 v1 v3 v4 v5 y10.1 y10.2) (fun z hz => (UR_s hz h2 rfl rfl))
def F_rfl_join_197 : List Nat := [10, 11, 28, 69, 70, 71, 72]
def A_rfl_join_197 : List Nat := [65, 66, 67, 68, 80]
theorem u_rfl_join_197 (v1 : Int) (v2 : Int) (v3 : Int) (v4 : Int) (v5 : Int) (m : mR) : RP (rfl_join_197 v1 v2 v3 v4 v5 m) (fun z : Int × mR => UR F_rfl_join_197 A_rfl_join_197 m z.2) := by
  unfold rfl_join_197
  exact RP_w (u_rfl_join_261 v1 (cut (v2 + (m.1 69))) v3 v4 v5 m) (fun z hz => (UR_s hz UR_0 rfl rfl))
def F_rfl_join_190 : List Nat := [10, 11, 28, 69, 70, 71, 72]
def A_rfl_join_190 : List Nat := [65, 66, 67, 68, 80]
theorem u_rfl_join_190 (v1 : Int) (v2 : Int) (v3 : Int) (v4 : Int) (v5 : Int) (u1 : Int) (m : mR) : RP (rfl_join_190 v1 v2 v3 v4 v5 u1 m) (fun z : Int × mR => UR F_rfl_join_190 A_rfl_join_190 m z.2) := by
  unfold rfl_join_190
  refine RP_bnd (u_rf_want u1 (m.1 70) m) (fun y13 h1 => ?_)
  have h2 : UR F_rfl_join_190 A_rfl_join_190 m y13.2 := (UR_s h1 UR_0 rfl rfl)
  exact RP_w (u_rfl_join_197 v1 v2 v3 v4 v5 y13.2) (fun z hz => (UR_s hz h2 rfl rfl))
def F_rfl_join_173 : List Nat := [10, 11, 28, 69, 70, 71, 72]
def A_rfl_join_173 : List Nat := [65, 66, 67, 68, 80]
theorem u_rfl_join_173 (v1 : Int) (v2 : Int) (v3 : Int) (v4 : Int) (v5 : Int) (m : mR) : RP (rfl_join_173 v1 v2 v3 v4 v5 m) (fun z : Int × mR => UR F_rfl_join_173 A_rfl_join_173 m z.2) := by
  unfold rfl_join_173
  refine RP_ite (fun h1 => ?_) (fun h1 => ?_)
  · skip
    exact RP_w (u_rfl_join_190 v1 v2 v3 v4 v5 0 m) (fun z hz => (UR_s hz UR_0 rfl rfl))
  · skip
    exact RP_w (u_rfl_join_190 v1 v2 v3 v4 v5 1 m) (fun z hz => (UR_s hz UR_0 rfl rfl))
def F_rfl_join_166 : List Nat := [10, 11, 28, 69, 70, 71, 72]
def A_rfl_join_166 : List Nat := [65, 66, 67, 68, 80]
theorem u_rfl_join_166 (v1 : Int) (v2 : Int) (v3 : Int) (v4 : Int) (v5 : Int) (u1 : Int) (m : mR) : RP (rfl_join_166 v1 v2 v3 v4 v5 u1 m) (fun z : Int × mR => UR F_rfl_join_166 A_rfl_join_166 m z.2) := by
  unfold rfl_join_166
  refine RP_bnd (u_rf_want u1 (m.1 70) m) (fun y17 h1 => ?_)
  have h2 : UR F_rfl_join_166 A_rfl_join_166 m y17.2 := (UR_s h1 UR_0 rfl rfl)
  exact RP_w (u_rfl_join_173 v1 v2 v3 v4 v5 y17.2) (fun z hz => (UR_s hz h2 rfl rfl))
def F_rfl_join_153 : List Nat := [10, 11, 28, 69, 70, 71, 72]
def A_rfl_join_153 : List Nat := [65, 66, 67, 68, 80]
theorem u_rfl_join_153 (v1 : Int) (v2 : Int) (v3 : Int) (v4 : Int) (v5 : Int) (m : mR) : RP (rfl_join_153 v1 v2 v3 v4 v5 m) (fun z : Int × mR => UR F_rfl_join_153 A_rfl_join_153 m z.2) := by
  unfold rfl_join_153
  refine RP_ite (fun h1 => ?_) (fun h1 => ?_)
  · skip
    exact RP_w (u_rfl_join_166 v1 v2 v3 v4 v5 1 m) (fun z hz => (UR_s hz UR_0 rfl rfl))
  · skip
    exact RP_w (u_rfl_join_166 v1 v2 v3 v4 v5 0 m) (fun z hz => (UR_s hz UR_0 rfl rfl))
def F_rfl_join_149 : List Nat := [10, 11, 28, 69, 70, 71, 72]
def A_rfl_join_149 : List Nat := [65, 66, 67, 68, 80]
theorem u_rfl_join_149 (v1 : Int) (v2 : Int) (v3 : Int) (v4 : Int) (v5 : Int) (u1 : Int) (m : mR) : RP (rfl_join_149 v1 v2 v3 v4 v5 u1 m) (fun z : Int × mR => UR F_rfl_join_149 A_rfl_join_149 m z.2) := by
  unfold rfl_join_149
  refine RP_bnd (u_rf_want u1 v3 m) (fun y21 h1 => ?_)
  have h2 : UR F_rfl_join_149 A_rfl_join_149 m y21.2 := (UR_s h1 UR_0 rfl rfl)
  exact RP_w (u_rfl_join_153 v1 v2 v3 v4 v5 y21.2) (fun z hz => (UR_s hz h2 rfl rfl))
def F_rfl_join_126 : List Nat := [10, 11, 28, 69, 70, 71, 72]
def A_rfl_join_126 : List Nat := [65, 66, 67, 68, 80]
theorem u_rfl_join_126 (v1 : Int) (v3 : Int) (v4 : Int) (v5 : Int) (m : mR) : RP (rfl_join_126 v1 v3 v4 v5 m) (fun z : Int × mR => UR F_rfl_join_126 A_rfl_join_126 m z.2) := by
  unfold rfl_join_126
  exact RP_w (u_rfl_join_261 v1 1 v3 v4 v5 m) (fun z hz => (UR_s hz UR_0 rfl rfl))
def F_rfl_join_106 : List Nat := [10, 11, 28, 69, 70, 71, 72]
def A_rfl_join_106 : List Nat := [65, 66, 67, 68, 80]
theorem u_rfl_join_106 (v1 : Int) (v3 : Int) (v4 : Int) (v5 : Int) (m : mR) : RP (rfl_join_106 v1 v3 v4 v5 m) (fun z : Int × mR => UR F_rfl_join_106 A_rfl_join_106 m z.2) := by
  unfold rfl_join_106
  refine RP_bnd (u_rf_wantBit (m.1 69) (m.1 71) (m.1 72) (m.1 70) m) (fun y24 h1 => ?_)
  have h2 : UR F_rfl_join_106 A_rfl_join_106 m y24.2 := (UR_s h1 UR_0 rfl rfl)
  exact RP_w (u_rfl_join_126 v1 v3 v4 v5 y24.2) (fun z hz => (UR_s hz h2 rfl rfl))
def F_rfl_join_88 : List Nat := [10, 11, 28, 69, 70, 71, 72]
def A_rfl_join_88 : List Nat := [65, 66, 67, 68, 80]
theorem u_rfl_join_88 (v1 : Int) (v2 : Int) (v3 : Int) (v4 : Int) (v5 : Int) (m : mR) : RP (rfl_join_88 v1 v2 v3 v4 v5 m) (fun z : Int × mR => UR F_rfl_join_88 A_rfl_join_88 m z.2) := by
  unfold rfl_join_88
  refine RP_bnd (u_rf_wantBit v2 ((m.2 83) v1) ((m.2 84) v1) v3 m) (fun y27 h1 => ?_)
  have h2 : UR F_rfl_join_88 A_rfl_join_88 m y27.2 := (UR_s h1 UR_0 rfl rfl)
  exact RP_w (u_rfl_join_106 v1 v3 v4 v5 y27.2) (fun z hz => (UR_s hz h2 rfl rfl))
theorem u_rf_join (v1 : Int) (m : mR) : RP (rf_join v1 m) (fun z : Int × mR => UR rF_join rA_join m z.2) := by
  unfold rf_join
  refine RP_bndT (fun y30 => ?_)
  refine RP_ite (fun h1 => ?_) (fun h1 => ?_)
  · skip
    exact RP_w (u_rfl_join_88 v1 ((m.2 81) v1) ((m.2 82) v1) ((m.2 80) v1) (m.1 69) m) (fun z hz => (UR_s hz UR_0 rfl rfl))
  · skip
    refine RP_ite (fun h2 => ?_) (fun h2 => ?_)
    · skip
      exact RP_w (u_rfl_join_88 v1 ((m.2 81) v1) ((m.2 82) v1) ((m.2 80) v1) (m.1 69) m) (fun z hz => (UR_s hz UR_0 rfl rfl))
    · skip
      refine RP_ite (fun h3 => ?_) (fun h3 => ?_)
      · skip
        exact RP_w (u_rfl_join_261 v1 ((m.2 81) v1) ((m.2 82) v1) ((m.2 80) v1) (m.1 69) m) (fun z hz => (UR_s hz UR_0 rfl rfl))
      · skip
        refine RP_ite (fun h4 => ?_) (fun h4 => ?_)
        · skip
          refine RP_ite (fun h5 => ?_) (fun h5 => ?_)
          · skip
            exact RP_w (u_rfl_join_149 v1 ((m.2 81) v1) ((m.2 82) v1) ((m.2 80) v1) (m.1 69) 1 m) (fun z hz => (UR_s hz UR_0 rfl rfl))
          · skip
            exact RP_w (u_rfl_join_149 v1 ((m.2 81) v1) ((m.2 82) v1) ((m.2 80) v1) (m.1 69) 0 m) (fun z hz => (UR_s hz UR_0 rfl rfl))
        · skip
          refine RP_ite (fun h6 => ?_) (fun h6 => ?_)
          · skip
            exact RP_w (u_rfl_join_207 v1 ((m.2 81) v1) ((m.2 82) v1) ((m.2 80) v1) (m.1 69) m) (fun z hz => (UR_s hz UR_0 rfl rfl))
          · skip
            refine RP_ite (fun h7 => ?_) (fun h7 => ?_)
            · skip
              exact RP_w (u_rfl_join_207 v1 ((m.2 81) v1) ((m.2 82) v1) ((m.2 80) v1) (m.1 69) m) (fun z hz => (UR_s hz UR_0 rfl rfl))
            · skip
              refine RP_ite (fun h8 => ?_) (fun h8 => ?_)
              · skip
                exact RP_w (u_rfl_join_207 v1 ((m.2 81) v1) ((m.2 82) v1) ((m.2 80) v1) (m.1 69) m) (fun z hz => (UR_s hz UR_0 rfl rfl))
              · skip
                refine RP_ite (fun h9 => ?_) (fun h9 => ?_)
                · skip
                  exact RP_w (u_rfl_join_207 v1 ((m.2 81) v1) ((m.2 82) v1) ((m.2 80) v1) (m.1 69) m) (fun z hz => (UR_s hz UR_0 rfl rfl))
                · skip
                  refine RP_ite (fun h10 => ?_) (fun h10 => ?_)
                  · skip
                    exact RP_w (u_rfl_join_207 v1 ((m.2 81) v1) ((m.2 82) v1) ((m.2 80) v1) (m.1 69) m) (fun z hz => (UR_s hz UR_0 rfl rfl))
                  · skip
                    exact RP_w (u_rfl_join_207 v1 ((m.2 81) v1) ((m.2 82) v1) ((m.2 80) v1) (m.1 69) m) (fun z hz => (UR_s hz UR_0 rfl rfl))
def rF_endChoice : List Nat := [7, 8, 9, 10, 11, 12, 28, 69, 70, 71, 72, 73, 74, 75]
def rA_endChoice : List Nat := [65, 66, 67, 68]
def F_rfl_endChoice_226 : List Nat := [70, 73, 75]
def A_rfl_endChoice_226 : List Nat := []
theorem u_rfl_endChoice_226 (v2 : Int) (m : mR) : RP (rfl_endChoice_226 v2 m) (fun z : Int × mR => UR F_rfl_endChoice_226 A_rfl_endChoice_226 m z.2) := by
  unfold rfl_endChoice_226
  exact RP_some (UR_m UR_0 rfl rfl (fun h => h))
def F_rfl_endChoice_195 : List Nat := [7, 8, 9, 10, 11, 12, 70, 73, 75]
def A_rfl_endChoice_195 : List Nat := []
theorem u_rfl_endChoice_195 (m : mR) : RP (rfl_endChoice_195 m) (fun z : Int × mR => UR F_rfl_endChoice_195 A_rfl_endChoice_195 m z.2) := by
  unfold rfl_endChoice_195
  refine RP_ite (fun h1 => ?_) (fun h1 => ?_)
  · skip
    exact RP_some (UR_m UR_0 rfl rfl (fun h => h))
  · skip
    refine RP_bnd (u_rf_need 41 m) (fun y3 h2 => ?_)
    have h3 : UR F_rfl_endChoice_195 A_rfl_endChoice_195 m y3.2 := (UR_s h2 UR_0 rfl rfl)
    exact RP_w (u_rfl_endChoice_226 ((m.2 77) (cut ((m.1 73) - 1))) y3.2) (fun z hz => (UR_s hz h3 rfl rfl))
def F_rfl_endChoice_191 : List Nat := []
def A_rfl_endChoice_191 : List Nat := []
theorem u_rfl_endChoice_191 (u0 : Int) (m : mR) : RP (rfl_endChoice_191 u0 m) (sel (fun z : (Int × mR) => UR F_rfl_endChoice_191 A_rfl_endChoice_191 m z.2) (fun z : mR => UR F_rfl_endChoice_191 A_rfl_endChoice_191 m z)) := by
  unfold rfl_endChoice_191
  exact RP_some UR_0
def F_rfl_endChoice_190 : List Nat := []
def A_rfl_endChoice_190 : List Nat := []
theorem u_rfl_endChoice_190 (m : mR) : RP (rfl_endChoice_190 m) (sel (fun z : (Int × mR) => UR F_rfl_endChoice_190 A_rfl_endChoice_190 m z.2) (fun z : mR => UR F_rfl_endChoice_190 A_rfl_endChoice_190 m z)) := by
  unfold rfl_endChoice_190
  exact RP_w (u_rfl_endChoice_191 0 m) (sl_w (fun z hz => (UR_s hz UR_0 rfl rfl)) (fun z hz => (UR_s hz UR_0 rfl rfl)))
def F_rfl_endChoice_152 : List Nat := [73, 74]
def A_rfl_endChoice_152 : List Nat := []
theorem u_rfl_endChoice_152 (m : mR) : RP (rfl_endChoice_152 m) (sel (fun z : (Int × mR) => UR F_rfl_endChoice_152 A_rfl_endChoice_152 m z.2) (fun z : mR => UR F_rfl_endChoice_152 A_rfl_endChoice_152 m z)) := by
  unfold rfl_endChoice_152
  refine RP_ite (fun h1 => ?_) (fun h1 => ?_)
  · skip
    exact RP_w (u_rfl_endChoice_190 (mO m [(73, cut ((m.1 73) - 1)), (74, cut ((m.1 74) - 1))] [])) (sl_w (fun z hz => (UR_s hz (UR_m UR_0 rfl rfl (fun h => h)) rfl rfl)) (fun z hz => (UR_s hz (UR_m UR_0 rfl rfl (fun h => h)) rfl rfl)))
  · skip
    refine RP_ite (fun h2 => ?_) (fun h2 => ?_)
    · skip
      exact RP_w (u_rfl_endChoice_191 1 (mO m [(73, cut ((m.1 73) - 1)), (74, cut ((m.1 74) - 1))] [])) (sl_w (fun z hz => (UR_s hz (UR_m UR_0 rfl rfl (fun h => h)) rfl rfl)) (fun z hz => (UR_s hz (UR_m UR_0 rfl rfl (fun h => h)) rfl rfl)))
    · skip
      exact RP_w (u_rfl_endChoice_190 (mO m [(73, cut ((m.1 73) - 1)), (74, cut ((m.1 74) - 1))] [])) (sl_w (fun z hz => (UR_s hz (UR_m UR_0 rfl rfl (fun h => h)) rfl rfl)) (fun z hz => (UR_s hz (UR_m UR_0 rfl rfl (fun h => h)) rfl rfl)))
def F_rfl_endChoice_141 : List Nat := [69, 70, 71, 72, 73, 74]
def A_rfl_endChoice_141 : List Nat := []
theorem u_rfl_endChoice_141 (v2 : Int) (v3 : Int) (m : mR) : RP (rfl_endChoice_141 v2 v3 m) (sel (fun z : (Int × mR) => UR F_rfl_endChoice_141 A_rfl_endChoice_141 m z.2) (fun z : mR => UR F_rfl_endChoice_141 A_rfl_endChoice_141 m z)) := by
  unfold rfl_endChoice_141
  refine RP_bnd (u_rf_unit v3 ((m.2 86) v2) m) (fun y8 h1 => ?_)
  have h2 : UR F_rfl_endChoice_141 A_rfl_endChoice_141 m y8.2 := (UR_s h1 UR_0 rfl rfl)
  exact RP_w (u_rfl_endChoice_152 y8.2) (sl_w (fun z hz => (UR_s hz h2 rfl rfl)) (fun z hz => (UR_s hz h2 rfl rfl)))
def F_rfl_endChoice_130 : List Nat := [10, 11, 28, 69, 70, 71, 72, 73, 74]
def A_rfl_endChoice_130 : List Nat := [65, 66, 67, 68]
theorem u_rfl_endChoice_130 (v2 : Int) (u0 : Int) (m : mR) : RP (rfl_endChoice_130 v2 u0 m) (sel (fun z : (Int × mR) => UR F_rfl_endChoice_130 A_rfl_endChoice_130 m z.2) (fun z : mR => UR F_rfl_endChoice_130 A_rfl_endChoice_130 m z)) := by
  unfold rfl_endChoice_130
  refine RP_bnd (u_rf_node 407 u0 0 0 m) (fun y11 h1 => ?_)
  have h2 : UR F_rfl_endChoice_130 A_rfl_endChoice_130 m y11.2 := (UR_s h1 UR_0 rfl rfl)
  exact RP_w (u_rfl_endChoice_141 v2 u0 y11.2) (sl_w (fun z hz => (UR_s hz h2 rfl rfl)) (fun z hz => (UR_s hz h2 rfl rfl)))
def F_rfl_endChoice_86 : List Nat := [10, 11, 28, 69, 70, 71, 72, 73, 74]
def A_rfl_endChoice_86 : List Nat := [65, 66, 67, 68]
theorem u_rfl_endChoice_86 (v2 : Int) (m : mR) : RP (rfl_endChoice_86 v2 m) (sel (fun z : (Int × mR) => UR F_rfl_endChoice_86 A_rfl_endChoice_86 m z.2) (fun z : mR => UR F_rfl_endChoice_86 A_rfl_endChoice_86 m z)) := by
  unfold rfl_endChoice_86
  refine RP_bnd (u_rf_common ((m.2 87) v2) ((m.2 90) v2) ((m.2 92) v2) ((m.2 88) v2) (m.1 69) (m.1 71) (m.1 72) (m.1 70) m) (fun y14 h1 => ?_)
  have h2 : UR F_rfl_endChoice_86 A_rfl_endChoice_86 m y14.2 := (UR_s h1 UR_0 rfl rfl)
  exact RP_w (u_rfl_endChoice_130 v2 y14.1 y14.2) (sl_w (fun z hz => (UR_s hz h2 rfl rfl)) (fun z hz => (UR_s hz h2 rfl rfl)))
def F_rfb_endChoice_33 : List Nat := [10, 11, 28, 69, 70, 71, 72, 73, 74]
def A_rfb_endChoice_33 : List Nat := [65, 66, 67, 68]
theorem u_rfb_endChoice_33 (s : Int × mR) : RP (rfb_endChoice_33 s) (sel (fun z : (Int × mR) => UR F_rfb_endChoice_33 A_rfb_endChoice_33 s.2 z.2) (fun z : mR => UR F_rfb_endChoice_33 A_rfb_endChoice_33 s.2 z)) := by
  unfold rfb_endChoice_33
  refine RP_ite (fun h1 => ?_) (fun h1 => ?_)
  · skip
    exact RP_some UR_0
  · skip
    refine RP_ite (fun h2 => ?_) (fun h2 => ?_)
    · skip
      refine RP_bnd (u_rf_wantBit ((s.2.2 85) (cut ((s.2.1 73) - 1))) ((s.2.2 89) (cut ((s.2.1 73) - 1))) ((s.2.2 91) (cut ((s.2.1 73) - 1))) ((s.2.2 86) (cut ((s.2.1 73) - 1))) s.2) (fun y20 h3 => ?_)
      have h4 : UR F_rfb_endChoice_33 A_rfb_endChoice_33 s.2 y20.2 := (UR_s h3 UR_0 rfl rfl)
      exact RP_w (u_rfl_endChoice_86 (cut ((s.2.1 73) - 1)) y20.2) (sl_w (fun z hz => (UR_s hz h4 rfl rfl)) (fun z hz => (UR_s hz h4 rfl rfl)))
    · skip
      exact RP_some UR_0
theorem uw_rfb_endChoice_33 (s : Int × mR) : RP (whl rfb_endChoice_33 s) (fun z : mR => UR F_rfb_endChoice_33 A_rfb_endChoice_33 s.2 z) := RP_whl (I := fun q : Int × mR => UR F_rfb_endChoice_33 A_rfb_endChoice_33 s.2 q.2) (fun q hq => RP_w (u_rfb_endChoice_33 q) (sl_w (fun z hz => (UR_s hz hq rfl rfl)) (fun z hz => (UR_s hz hq rfl rfl)))) UR_0
def F_rfl_endChoice_32 : List Nat := [7, 8, 9, 10, 11, 12, 28, 69, 70, 71, 72, 73, 74, 75]
def A_rfl_endChoice_32 : List Nat := [65, 66, 67, 68]
theorem u_rfl_endChoice_32 (u0 : Int) (m : mR) : RP (rfl_endChoice_32 u0 m) (fun z : Int × mR => UR F_rfl_endChoice_32 A_rfl_endChoice_32 m z.2) := by
  unfold rfl_endChoice_32
  refine RP_bnd (uw_rfb_endChoice_33 (u0, m)) (fun e23 h1 => ?_)
  have h2 : UR F_rfl_endChoice_32 A_rfl_endChoice_32 m e23 := (UR_s h1 UR_0 rfl rfl)
  exact RP_w (u_rfl_endChoice_195 e23) (fun z hz => (UR_s hz h2 rfl rfl))
theorem u_rf_endChoice (m : mR) : RP (rf_endChoice m) (fun z : Int × mR => UR rF_endChoice rA_endChoice m z.2) := by
  unfold rf_endChoice
  refine RP_ite (fun h1 => ?_) (fun h1 => ?_)
  · skip
    exact RP_w (u_rfl_endChoice_32 0 (mO m [(73, cut ((m.1 73) - 1)), (74, cut ((m.1 74) - 1))] [])) (fun z hz => (UR_s hz (UR_m UR_0 rfl rfl (fun h => h)) rfl rfl))
  · skip
    exact RP_w (u_rfl_endChoice_32 1 (mO m [(73, cut ((m.1 73) - 1)), (74, cut ((m.1 74) - 1))] [])) (fun z hz => (UR_s hz (UR_m UR_0 rfl rfl (fun h => h)) rfl rfl))
def rF_endOr : List Nat := [7, 8, 9, 10, 11, 12, 28, 69, 70, 71, 72, 73, 74, 75]
def rA_endOr : List Nat := [65, 66, 67, 68, 76, 77, 78, 79, 80, 85, 86, 87, 88, 89, 90, 91, 92]
def F_rfl_endOr_140 : List Nat := [10, 11, 73, 74, 75]
def A_rfl_endOr_140 : List Nat := [76, 77, 78, 79, 80]
theorem u_rfl_endOr_140 (m : mR) : RP (rfl_endOr_140 m) (fun z : Int × mR => UR F_rfl_endOr_140 A_rfl_endOr_140 m z.2) := by
  unfold rfl_endOr_140
  refine RP_bnd (u_rf_beginChoice m) (fun y1 h1 => ?_)
  have h2 : UR F_rfl_endOr_140 A_rfl_endOr_140 m y1.2 := (UR_s h1 UR_0 rfl rfl)
  exact RP_some h2
def F_rfl_endOr_77 : List Nat := [7, 8, 9, 10, 11, 12, 28, 69, 70, 71, 72, 73, 74, 75]
def A_rfl_endOr_77 : List Nat := [65, 66, 67, 68, 76, 77, 78, 79, 80, 87, 88, 90, 92]
theorem u_rfl_endOr_77 (v1 : Int) (m : mR) : RP (rfl_endOr_77 v1 m) (fun z : Int × mR => UR F_rfl_endOr_77 A_rfl_endOr_77 m z.2) := by
  unfold rfl_endOr_77
  refine RP_ite (fun h1 => ?_) (fun h1 => ?_)
  · skip
    refine RP_bnd (u_rf_need 58 (mO m [] [(79, upI (m.2 79) v1 2), (87, upI (m.2 87) v1 (m.1 69)), (88, upI (m.2 88) v1 (m.1 70)), (90, upI (m.2 90) v1 (nar1 (m.1 71))), (92, upI (m.2 92) v1 (m.1 72))])) (fun y8 h2 => ?_)
    have h3 : UR F_rfl_endOr_77 A_rfl_endOr_77 m y8.2 := (UR_s h2 (UR_m UR_0 rfl rfl (fun h => h)) rfl rfl)
    exact RP_w (u_rfl_endOr_140 y8.2) (fun z hz => (UR_s hz h3 rfl rfl))
  · skip
    refine RP_bnd (u_rf_endChoice m) (fun y5 h4 => ?_)
    have h5 : UR F_rfl_endOr_77 A_rfl_endOr_77 m y5.2 := (UR_s h4 UR_0 rfl rfl)
    exact RP_some h5
def F_rfl_endOr_69 : List Nat := [75]
def A_rfl_endOr_69 : List Nat := []
theorem u_rfl_endOr_69 (m : mR) : RP (rfl_endOr_69 m) (fun z : Int × mR => UR F_rfl_endOr_69 A_rfl_endOr_69 m z.2) := by
  unfold rfl_endOr_69
  exact RP_some (UR_m UR_0 rfl rfl (fun h => h))
theorem u_rf_endOr (v1 : Int) (m : mR) : RP (rf_endOr v1 m) (fun z : Int × mR => UR rF_endOr rA_endOr m z.2) := by
  unfold rf_endOr
  refine RP_ite (fun h1 => ?_) (fun h1 => ?_)
  · skip
    refine RP_ite (fun h2 => ?_) (fun h2 => ?_)
    · skip
      refine RP_bnd (u_rf_next (mO m [] [(79, upI (m.2 79) v1 1), (85, upI (m.2 85) v1 (m.1 69)), (86, upI (m.2 86) v1 (m.1 70)), (89, upI (m.2 89) v1 (nar1 (m.1 71))), (91, upI (m.2 91) v1 (m.1 72))])) (fun y13 h3 => ?_)
      have h4 : UR rF_endOr rA_endOr m y13.2 := (UR_s h3 (UR_m UR_0 rfl rfl (fun h => h)) rfl rfl)
      exact RP_w (u_rfl_endOr_69 y13.2) (fun z hz => (UR_s hz h4 rfl rfl))
    · skip
      exact RP_w (u_rfl_endOr_77 v1 m) (fun z hz => (UR_s hz UR_0 rfl rfl))
  · skip
    exact RP_w (u_rfl_endOr_77 v1 m) (fun z hz => (UR_s hz UR_0 rfl rfl))
def rF_goOn : List Nat := [7, 8, 9, 10, 11, 12, 28, 69, 70, 71, 72, 73, 74, 75]
def rA_goOn : List Nat := [65, 66, 67, 68, 76, 77, 78, 79, 80, 81, 82, 83, 84, 85, 86, 87, 88, 89, 90, 91, 92]
def F_rfl_goOn_277 : List Nat := [75]
def A_rfl_goOn_277 : List Nat := []
theorem u_rfl_goOn_277 (m : mR) : RP (rfl_goOn_277 m) (fun z : Int × mR => UR F_rfl_goOn_277 A_rfl_goOn_277 m z.2) := by
  unfold rfl_goOn_277
  exact RP_some (UR_m UR_0 rfl rfl (fun h => h))
def F_rfl_goOn_204 : List Nat := [7, 8, 9, 10, 11, 12, 28, 69, 70, 71, 72, 73, 74, 75]
def A_rfl_goOn_204 : List Nat := [65, 66, 67, 68, 76, 77, 78, 79, 80, 81, 82, 83, 84, 85, 86, 87, 88, 89, 90, 91, 92]
theorem u_rfl_goOn_204 (v1 : Int) (v2 : Int) (m : mR) : RP (rfl_goOn_204 v1 v2 m) (fun z : Int × mR => UR F_rfl_goOn_204 A_rfl_goOn_204 m z.2) := by
  unfold rfl_goOn_204
  refine RP_ite (fun h1 => ?_) (fun h1 => ?_)
  · skip
    refine RP_ite (fun h2 => ?_) (fun h2 => ?_)
    · skip
      refine RP_bnd (u_rf_endOr v1 m) (fun y4 h3 => ?_)
      have h4 : UR F_rfl_goOn_204 A_rfl_goOn_204 m y4.2 := (UR_s h3 UR_0 rfl rfl)
      exact RP_some h4
    · skip
      refine RP_bnd (u_rf_next (mO m [] [(80, upI (m.2 80) (cut ((cut (9 * v1)) + v2)) (m.1 7)), (81, upI (m.2 81) (cut ((cut (9 * v1)) + v2)) (m.1 69)), (82, upI (m.2 82) (cut ((cut (9 * v1)) + v2)) (m.1 70)), (83, upI (m.2 83) (cut ((cut (9 * v1)) + v2)) (nar1 (m.1 71))), (84, upI (m.2 84) (cut ((cut (9 * v1)) + v2)) (m.1 72))])) (fun y7 h5 => ?_)
      have h6 : UR F_rfl_goOn_204 A_rfl_goOn_204 m y7.2 := (UR_s h5 (UR_m UR_0 rfl rfl (fun h => h)) rfl rfl)
      exact RP_w (u_rfl_goOn_277 y7.2) (fun z hz => (UR_s hz h6 rfl rfl))
  · skip
    exact RP_some UR_0
def F_rfl_goOn_198 : List Nat := []
def A_rfl_goOn_198 : List Nat := []
theorem u_rfl_goOn_198 (v1 : Int) (v2 : Int) (v3 : Int) (m : mR) : RP (rfl_goOn_198 v1 v2 v3 m) (sel (fun z : (Int × mR) => UR F_rfl_goOn_198 A_rfl_goOn_198 m z.2) (fun z : mR => UR F_rfl_goOn_198 A_rfl_goOn_198 m z)) := by
  unfold rfl_goOn_198
  exact RP_some UR_0
def F_rfb_goOn_162 : List Nat := [10, 11, 28, 69, 70, 71, 72]
def A_rfb_goOn_162 : List Nat := [65, 66, 67, 68, 80]
theorem u_rfb_goOn_162 (v1 : Int) (v2 : Int) (s : Int × mR) : RP (rfb_goOn_162 v1 v2 s) (sel (fun z : (Int × mR) => UR F_rfb_goOn_162 A_rfb_goOn_162 s.2 z.2) (fun z : mR => UR F_rfb_goOn_162 A_rfb_goOn_162 s.2 z)) := by
  unfold rfb_goOn_162
  refine RP_ite (fun h1 => ?_) (fun h1 => ?_)
  · skip
    exact RP_some UR_0
  · skip
    refine RP_ite (fun h2 => ?_) (fun h2 => ?_)
    · skip
      exact RP_some UR_0
    · skip
      refine RP_ite (fun h3 => ?_) (fun h3 => ?_)
      · skip
        refine RP_bnd (u_rf_join (cut ((cut (9 * v1)) + s.1)) s.2) (fun y14 h4 => ?_)
        have h5 : UR F_rfb_goOn_162 A_rfb_goOn_162 s.2 y14.2 := (UR_s h4 UR_0 rfl rfl)
        exact RP_w (u_rfl_goOn_198 v1 v2 s.1 y14.2) (sl_w (fun z hz => (UR_s hz h5 rfl rfl)) (fun z hz => (UR_s hz h5 rfl rfl)))
      · skip
        exact RP_w (u_rfl_goOn_198 v1 v2 s.1 s.2) (sl_w (fun z hz => (UR_s hz UR_0 rfl rfl)) (fun z hz => (UR_s hz UR_0 rfl rfl)))
theorem uw_rfb_goOn_162 (v1 : Int) (v2 : Int) (s : Int × mR) : RP (whl (rfb_goOn_162 v1 v2) s) (fun z : mR => UR F_rfb_goOn_162 A_rfb_goOn_162 s.2 z) := RP_whl (I := fun q : Int × mR => UR F_rfb_goOn_162 A_rfb_goOn_162 s.2 q.2) (fun q hq => RP_w (u_rfb_goOn_162 v1 v2 q) (sl_w (fun z hz => (UR_s hz hq rfl rfl)) (fun z hz => (UR_s hz hq rfl rfl)))) UR_0
def F_rfl_goOn_159 : List Nat := [7, 8, 9, 10, 11, 12, 28, 69, 70, 71, 72, 73, 74, 75]
def A_rfl_goOn_159 : List Nat := [65, 66, 67, 68, 76, 77, 78, 79, 80, 81, 82, 83, 84, 85, 86, 87, 88, 89, 90, 91, 92]
theorem u_rfl_goOn_159 (v1 : Int) (v2 : Int) (m : mR) : RP (rfl_goOn_159 v1 v2 m) (fun z : Int × mR => UR F_rfl_goOn_159 A_rfl_goOn_159 m z.2) := by
  unfold rfl_goOn_159
  refine RP_bnd (uw_rfb_goOn_162 v1 v2 (8, m)) (fun e17 h1 => ?_)
  have h2 : UR F_rfl_goOn_159 A_rfl_goOn_159 m e17 := (UR_s h1 UR_0 rfl rfl)
  exact RP_w (u_rfl_goOn_204 v1 v2 e17) (fun z hz => (UR_s hz h2 rfl rfl))
def F_rfl_goOn_123 : List Nat := [69, 70, 71, 72]
def A_rfl_goOn_123 : List Nat := []
theorem u_rfl_goOn_123 (v2 : Int) (v3 : Int) (m : mR) : RP (rfl_goOn_123 v2 v3 m) (fun z : Int × mR => UR F_rfl_goOn_123 A_rfl_goOn_123 m z.2) := by
  unfold rfl_goOn_123
  refine RP_bnd (u_rf_unit v3 v2 m) (fun y20 h1 => ?_)
  have h2 : UR F_rfl_goOn_123 A_rfl_goOn_123 m y20.2 := (UR_s h1 UR_0 rfl rfl)
  exact RP_some h2
def F_rfl_goOn_117 : List Nat := [10, 11, 28, 69, 70, 71, 72]
def A_rfl_goOn_117 : List Nat := [65, 66, 67, 68]
theorem u_rfl_goOn_117 (v2 : Int) (v3 : Int) (u1 : Int) (m : mR) : RP (rfl_goOn_117 v2 v3 u1 m) (fun z : Int × mR => UR F_rfl_goOn_117 A_rfl_goOn_117 m z.2) := by
  unfold rfl_goOn_117
  refine RP_bnd (u_rf_node u1 v3 0 0 m) (fun y23 h1 => ?_)
  have h2 : UR F_rfl_goOn_117 A_rfl_goOn_117 m y23.2 := (UR_s h1 UR_0 rfl rfl)
  exact RP_w (u_rfl_goOn_123 v2 v3 y23.2) (fun z hz => (UR_s hz h2 rfl rfl))
def F_rfl_goOn_73 : List Nat := [10, 11, 28, 69, 70, 71, 72, 73, 74]
def A_rfl_goOn_73 : List Nat := [65, 66, 67, 68]
theorem u_rfl_goOn_73 (v1 : Int) (v2 : Int) (v3 : Int) (m : mR) : RP (rfl_goOn_73 v1 v2 v3 m) (fun z : Int × mR => UR F_rfl_goOn_73 A_rfl_goOn_73 m z.2) := by
  unfold rfl_goOn_73
  refine RP_ite (fun h1 => ?_) (fun h1 => ?_)
  · skip
    exact RP_w (u_rfl_goOn_117 v2 v3 408 (mO m [(73, cut ((m.1 73) - 1)), (74, cut ((m.1 74) - 1))] [])) (fun z hz => (UR_s hz (UR_m UR_0 rfl rfl (fun h => h)) rfl rfl))
  · skip
    exact RP_w (u_rfl_goOn_117 v2 v3 ((m.2 78) v1) (mO m [(73, cut ((m.1 73) - 1)), (74, cut ((m.1 74) - 1))] [])) (fun z hz => (UR_s hz (UR_m UR_0 rfl rfl (fun h => h)) rfl rfl))
def F_rfl_goOn_60 : List Nat := [10, 11, 28, 69, 70, 71, 72, 73, 74]
def A_rfl_goOn_60 : List Nat := [65, 66, 67, 68]
theorem u_rfl_goOn_60 (v1 : Int) (v2 : Int) (v3 : Int) (m : mR) : RP (rfl_goOn_60 v1 v2 v3 m) (fun z : Int × mR => UR F_rfl_goOn_60 A_rfl_goOn_60 m z.2) := by
  unfold rfl_goOn_60
  refine RP_ite (fun h1 => ?_) (fun h1 => ?_)
  · skip
    exact RP_w (u_rfl_goOn_73 v1 v2 1 m) (fun z hz => (UR_s hz UR_0 rfl rfl))
  · skip
    exact RP_w (u_rfl_goOn_73 v1 v2 v3 m) (fun z hz => (UR_s hz UR_0 rfl rfl))
theorem u_rf_goOn (m : mR) : RP (rf_goOn m) (fun z : Int × mR => UR rF_goOn rA_goOn m z.2) := by
  unfold rf_goOn
  refine RP_ite (fun h1 => ?_) (fun h1 => ?_)
  · skip
    refine RP_ite (fun h2 => ?_) (fun h2 => ?_)
    · skip
      refine RP_bnd (u_rf_wantBit (m.1 69) (m.1 71) (m.1 72) (m.1 70) m) (fun y34 h3 => ?_)
      have h4 : UR rF_goOn rA_goOn m y34.2 := (UR_s h3 UR_0 rfl rfl)
      exact RP_w (u_rfl_goOn_60 (cut ((m.1 73) - 1)) ((m.2 77) (cut ((m.1 73) - 1))) (m.1 69) y34.2) (fun z hz => (UR_s hz h4 rfl rfl))
    · skip
      exact RP_w (u_rfl_goOn_60 (cut ((m.1 73) - 1)) ((m.2 77) (cut ((m.1 73) - 1))) (m.1 69) m) (fun z hz => (UR_s hz UR_0 rfl rfl))
  · skip
    refine RP_bndT (fun y29 => ?_)
    refine RP_ite (fun h5 => ?_) (fun h5 => ?_)
    · skip
      refine RP_ite (fun h6 => ?_) (fun h6 => ?_)
      · skip
        exact RP_w (u_rfl_goOn_159 (cut ((m.1 73) - 1)) y29 m) (fun z hz => (UR_s hz UR_0 rfl rfl))
      · skip
        exact RP_w (u_rfl_goOn_159 (cut ((m.1 73) - 1)) (-1) m) (fun z hz => (UR_s hz UR_0 rfl rfl))
    · skip
      exact RP_w (u_rfl_goOn_159 (cut ((m.1 73) - 1)) y29 m) (fun z hz => (UR_s hz UR_0 rfl rfl))
def rF_readExpr : List Nat := [7, 8, 9, 10, 11, 12, 28, 69, 70, 71, 72, 73, 74, 75]
def rA_readExpr : List Nat := [65, 66, 67, 68, 76, 77, 78, 79, 80, 81, 82, 83, 84, 85, 86, 87, 88, 89, 90, 91, 92]
def F_rfb_readExpr_19 : List Nat := [7, 8, 9, 10, 11, 12, 28, 69, 70, 71, 72, 73, 74, 75]
def A_rfb_readExpr_19 : List Nat := [65, 66, 67, 68, 76, 77, 78, 79, 80, 81, 82, 83, 84, 85, 86, 87, 88, 89, 90, 91, 92]
theorem u_rfb_readExpr_19 (s : mR) : RP (rfb_readExpr_19 s) (sel (fun z : (mR) => UR F_rfb_readExpr_19 A_rfb_readExpr_19 s z) (fun z : mR => UR F_rfb_readExpr_19 A_rfb_readExpr_19 s z)) := by
  unfold rfb_readExpr_19
  refine RP_ite (fun h1 => ?_) (fun h1 => ?_)
  · skip
    refine RP_ite (fun h2 => ?_) (fun h2 => ?_)
    · skip
      exact RP_some UR_0
    · skip
      refine RP_ite (fun h3 => ?_) (fun h3 => ?_)
      · skip
        refine RP_bnd (u_rf_wantUnit s) (fun y6 h4 => ?_)
        have h5 : UR F_rfb_readExpr_19 A_rfb_readExpr_19 s y6.2 := (UR_s h4 UR_0 rfl rfl)
        exact RP_some h5
      · skip
        refine RP_ite (fun h6 => ?_) (fun h6 => ?_)
        · skip
          refine RP_bnd (u_rf_after s) (fun y10 h7 => ?_)
          have h8 : UR F_rfb_readExpr_19 A_rfb_readExpr_19 s y10.2 := (UR_s h7 UR_0 rfl rfl)
          exact RP_some h8
        · skip
          refine RP_bnd (u_rf_goOn s) (fun y13 h9 => ?_)
          have h10 : UR F_rfb_readExpr_19 A_rfb_readExpr_19 s y13.2 := (UR_s h9 UR_0 rfl rfl)
          exact RP_some h10
  · skip
    exact RP_some UR_0
theorem uw_rfb_readExpr_19 (s : mR) : RP (whl rfb_readExpr_19 s) (fun z : mR => UR F_rfb_readExpr_19 A_rfb_readExpr_19 s z) := RP_whl (I := fun q : mR => UR F_rfb_readExpr_19 A_rfb_readExpr_19 s q) (fun q hq => RP_w (u_rfb_readExpr_19 q) (sl_w (fun z hz => (UR_s hz hq rfl rfl)) (fun z hz => (UR_s hz hq rfl rfl)))) UR_0
theorem u_rf_readExpr (m : mR) : RP (rf_readExpr m) (fun z : Int × mR => UR rF_readExpr rA_readExpr m z.2) := by
  unfold rf_readExpr
  refine RP_bnd (u_rf_beginChoice (mO m [(73, 0), (74, 0), (75, 0)] [])) (fun y16 h1 => ?_)
  have h2 : UR rF_readExpr rA_readExpr m y16.2 := (UR_s h1 (UR_m UR_0 rfl rfl (fun h => h)) rfl rfl)
  refine RP_bnd (uw_rfb_readExpr_19 y16.2) (fun e19 h3 => ?_)
  have h4 : UR rF_readExpr rA_readExpr m e19 := (UR_s h3 h2 rfl rfl)
  exact RP_some h4
def rF_caseNumber : List Nat := [7, 8, 9, 10, 11, 12]
def rA_caseNumber : List Nat := []
def F_rfl_caseNumber_54 : List Nat := []
def A_rfl_caseNumber_54 : List Nat := []
theorem u_rfl_caseNumber_54 (v3 : Int) (m : mR) : RP (rfl_caseNumber_54 v3 m) (fun z : Int × mR => UR F_rfl_caseNumber_54 A_rfl_caseNumber_54 m z.2) := by
  unfold rfl_caseNumber_54
  exact RP_some UR_0
def F_rfl_caseNumber_37 : List Nat := [10, 11]
def A_rfl_caseNumber_37 : List Nat := []
theorem u_rfl_caseNumber_37 (v1 : Int) (v2 : Int) (v3 : Int) (m : mR) : RP (rfl_caseNumber_37 v1 v2 v3 m) (fun z : Int × mR => UR F_rfl_caseNumber_37 A_rfl_caseNumber_37 m z.2) := by
  unfold rfl_caseNumber_37
  refine RP_ite (fun h1 => ?_) (fun h1 => ?_)
  · skip
    refine RP_bndT (fun y2 => ?_)
    refine RP_bnd (u_rf_want y2 v2 m) (fun y4 h2 => ?_)
    have h3 : UR F_rfl_caseNumber_37 A_rfl_caseNumber_37 m y4.2 := (UR_s h2 UR_0 rfl rfl)
    exact RP_w (u_rfl_caseNumber_54 v3 y4.2) (fun z hz => (UR_s hz h3 rfl rfl))
  · skip
    exact RP_w (u_rfl_caseNumber_54 v3 m) (fun z hz => (UR_s hz UR_0 rfl rfl))
def F_rfl_caseNumber_21 : List Nat := []
def A_rfl_caseNumber_21 : List Nat := []
theorem u_rfl_caseNumber_21 (m : mR) : RP (rfl_caseNumber_21 m) (fun z : Int × mR => UR F_rfl_caseNumber_21 A_rfl_caseNumber_21 m z.2) := by
  unfold rfl_caseNumber_21
  exact RP_some UR_0
theorem u_rf_caseNumber (v1 : Int) (m : mR) : RP (rf_caseNumber v1 m) (fun z : Int × mR => UR rF_caseNumber rA_caseNumber m z.2) := by
  unfold rf_caseNumber
  refine RP_ite (fun h1 => ?_) (fun h1 => ?_)
  · skip
    refine RP_ite (fun h2 => ?_) (fun h2 => ?_)
    · skip
      refine RP_bnd (u_rf_next m) (fun y9 h3 => ?_)
      have h4 : UR rF_caseNumber rA_caseNumber m y9.2 := (UR_s h3 UR_0 rfl rfl)
      exact RP_w (u_rfl_caseNumber_37 v1 (m.1 8) (m.1 12) y9.2) (fun z hz => (UR_s hz h4 rfl rfl))
    · skip
      refine RP_bnd (u_rf_bad m) (fun y12 h5 => ?_)
      have h6 : UR rF_caseNumber rA_caseNumber m y12.2 := (UR_s h5 UR_0 rfl rfl)
      exact RP_w (u_rfl_caseNumber_21 y12.2) (fun z hz => (UR_s hz h6 rfl rfl))
  · skip
    exact RP_some UR_0
def rF_takeCase : List Nat := [7, 8, 9, 10, 11, 12, 13, 23]
def rA_takeCase : List Nat := [14, 15, 16, 17, 37, 38, 42, 45, 97, 98]
def F_rfl_takeCase_123 : List Nat := []
def A_rfl_takeCase_123 : List Nat := [42]
theorem u_rfl_takeCase_123 (v1 : Int) (m : mR) : RP (rfl_takeCase_123 v1 m) (fun z : Int × mR => UR F_rfl_takeCase_123 A_rfl_takeCase_123 m z.2) := by
  unfold rfl_takeCase_123
  exact RP_some (UR_m UR_0 rfl rfl (fun h => h))
def F_rfl_takeCase_116 : List Nat := [7, 8, 9, 10, 11, 12]
def A_rfl_takeCase_116 : List Nat := [42, 45]
theorem u_rfl_takeCase_116 (v1 : Int) (u1 : Int) (u2 : Int) (m : mR) : RP (rfl_takeCase_116 v1 u1 u2 m) (fun z : Int × mR => UR F_rfl_takeCase_116 A_rfl_takeCase_116 m z.2) := by
  unfold rfl_takeCase_116
  refine RP_bnd (u_rf_need 59 (mO m [] [(45, upI (m.2 45) u1 u2)])) (fun y1 h1 => ?_)
  have h2 : UR F_rfl_takeCase_116 A_rfl_takeCase_116 m y1.2 := (UR_s h1 (UR_m UR_0 rfl rfl (fun h => h)) rfl rfl)
  exact RP_w (u_rfl_takeCase_123 v1 y1.2) (fun z hz => (UR_s hz h2 rfl rfl))
def F_rfl_takeCase_107 : List Nat := [7, 8, 9, 10, 11, 12, 13, 23]
def A_rfl_takeCase_107 : List Nat := [14, 15, 16, 17, 37, 38, 42, 45]
theorem u_rfl_takeCase_107 (v1 : Int) (v2 : Int) (m : mR) : RP (rfl_takeCase_107 v1 v2 m) (fun z : Int × mR => UR F_rfl_takeCase_107 A_rfl_takeCase_107 m z.2) := by
  unfold rfl_takeCase_107
  refine RP_bnd (u_rf_stateHere m) (fun y4 h1 => ?_)
  have h2 : UR F_rfl_takeCase_107 A_rfl_takeCase_107 m y4.2 := (UR_s h1 UR_0 rfl rfl)
  exact RP_w (u_rfl_takeCase_116 v1 v2 y4.1 y4.2) (fun z hz => (UR_s hz h2 rfl rfl))
def F_rfl_takeCase_101 : List Nat := [7, 8, 9, 10, 11, 12, 13, 23]
def A_rfl_takeCase_101 : List Nat := [14, 15, 16, 17, 37, 38, 42, 45]
theorem u_rfl_takeCase_101 (v1 : Int) (v2 : Int) (m : mR) : RP (rfl_takeCase_101 v1 v2 m) (fun z : Int × mR => UR F_rfl_takeCase_101 A_rfl_takeCase_101 m z.2) := by
  unfold rfl_takeCase_101
  refine RP_bnd (u_rf_need 58 m) (fun y7 h1 => ?_)
  have h2 : UR F_rfl_takeCase_101 A_rfl_takeCase_101 m y7.2 := (UR_s h1 UR_0 rfl rfl)
  exact RP_w (u_rfl_takeCase_107 v1 v2 y7.2) (fun z hz => (UR_s hz h2 rfl rfl))
def F_rfl_takeCase_100 : List Nat := [7, 8, 9, 10, 11, 12, 13, 23]
def A_rfl_takeCase_100 : List Nat := [14, 15, 16, 17, 37, 38, 42, 45, 98]
theorem u_rfl_takeCase_100 (v1 : Int) (v2 : Int) (u1 : Int) (u2 : Int) (m : mR) : RP (rfl_takeCase_100 v1 v2 u1 u2 m) (fun z : Int × mR => UR F_rfl_takeCase_100 A_rfl_takeCase_100 m z.2) := by
  unfold rfl_takeCase_100
  exact RP_w (u_rfl_takeCase_101 v1 v2 (mO m [] [(98, upI (m.2 98) u1 u2)])) (fun z hz => (UR_s hz (UR_m UR_0 rfl rfl (fun h => h)) rfl rfl))
def F_rfl_takeCase_85 : List Nat := [7, 8, 9, 10, 11, 12, 13, 23]
def A_rfl_takeCase_85 : List Nat := [14, 15, 16, 17, 37, 38, 42, 45, 98]
theorem u_rfl_takeCase_85 (v1 : Int) (v2 : Int) (m : mR) : RP (rfl_takeCase_85 v1 v2 m) (fun z : Int × mR => UR F_rfl_takeCase_85 A_rfl_takeCase_85 m z.2) := by
  unfold rfl_takeCase_85
  refine RP_bnd (u_rf_caseNumber ((m.2 43) v1) m) (fun y10 h1 => ?_)
  have h2 : UR F_rfl_takeCase_85 A_rfl_takeCase_85 m y10.2 := (UR_s h1 UR_0 rfl rfl)
  exact RP_w (u_rfl_takeCase_100 v1 v2 v2 y10.1 y10.2) (fun z hz => (UR_s hz h2 rfl rfl))
def F_rfl_takeCase_55 : List Nat := [7, 8, 9, 10, 11, 12, 13, 23]
def A_rfl_takeCase_55 : List Nat := [14, 15, 16, 17, 37, 38, 42, 45, 97, 98]
theorem u_rfl_takeCase_55 (v1 : Int) (v2 : Int) (u1 : Int) (u2 : Int) (m : mR) : RP (rfl_takeCase_55 v1 v2 u1 u2 m) (fun z : Int × mR => UR F_rfl_takeCase_55 A_rfl_takeCase_55 m z.2) := by
  unfold rfl_takeCase_55
  refine RP_ite (fun h1 => ?_) (fun h1 => ?_)
  · skip
    refine RP_ite (fun h2 => ?_) (fun h2 => ?_)
    · skip
      refine RP_bnd (u_rf_next (mO m [] [(97, upI (m.2 97) u1 u2), (98, upI (m.2 98) v2 (-1))])) (fun y15 h3 => ?_)
      have h4 : UR F_rfl_takeCase_55 A_rfl_takeCase_55 m y15.2 := (UR_s h3 (UR_m UR_0 rfl rfl (fun h => h)) rfl rfl)
      exact RP_w (u_rfl_takeCase_85 v1 v2 y15.2) (fun z hz => (UR_s hz h4 rfl rfl))
    · skip
      exact RP_w (u_rfl_takeCase_101 v1 v2 (mO m [] [(97, upI (m.2 97) u1 u2), (98, upI (m.2 98) v2 (-1))])) (fun z hz => (UR_s hz (UR_m UR_0 rfl rfl (fun h => h)) rfl rfl))
  · skip
    exact RP_w (u_rfl_takeCase_101 v1 v2 (mO m [] [(97, upI (m.2 97) u1 u2), (98, upI (m.2 98) v2 (-1))])) (fun z hz => (UR_s hz (UR_m UR_0 rfl rfl (fun h => h)) rfl rfl))
def F_rfl_takeCase_20 : List Nat := [7, 8, 9, 10, 11, 12, 13, 23]
def A_rfl_takeCase_20 : List Nat := [14, 15, 16, 17, 37, 38, 42, 45, 97, 98]
theorem u_rfl_takeCase_20 (v1 : Int) (m : mR) : RP (rfl_takeCase_20 v1 m) (fun z : Int × mR => UR F_rfl_takeCase_20 A_rfl_takeCase_20 m z.2) := by
  unfold rfl_takeCase_20
  refine RP_ite (fun h1 => ?_) (fun h1 => ?_)
  · skip
    refine RP_bnd (u_rf_caseNumber ((m.2 43) v1) m) (fun y19 h2 => ?_)
    have h3 : UR F_rfl_takeCase_20 A_rfl_takeCase_20 m y19.2 := (UR_s h2 UR_0 rfl rfl)
    exact RP_w (u_rfl_takeCase_55 v1 (cut ((cut (8 * v1)) + ((m.2 42) v1))) (cut ((cut (8 * v1)) + ((m.2 42) v1))) y19.1 y19.2) (fun z hz => (UR_s hz h3 rfl rfl))
  · skip
    exact RP_some UR_0
theorem u_rf_takeCase (v1 : Int) (m : mR) : RP (rf_takeCase v1 m) (fun z : Int × mR => UR rF_takeCase rA_takeCase m z.2) := by
  unfold rf_takeCase
  refine RP_ite (fun h1 => ?_) (fun h1 => ?_)
  · skip
    refine RP_bnd (u_rf_wrong 4 (m.1 8) m) (fun y23 h2 => ?_)
    have h3 : UR rF_takeCase rA_takeCase m y23.2 := (UR_s h2 UR_0 rfl rfl)
    exact RP_w (u_rfl_takeCase_20 v1 y23.2) (fun z hz => (UR_s hz h3 rfl rfl))
  · skip
    exact RP_w (u_rfl_takeCase_20 v1 m) (fun z hz => (UR_s hz UR_0 rfl rfl))
def rF_takeSelect : List Nat := [7, 8, 9, 10, 11, 12, 13, 23, 28, 69, 70, 71, 72, 73, 74, 75]
def rA_takeSelect : List Nat := [14, 15, 16, 17, 37, 38, 42, 43, 44, 45, 65, 66, 67, 68, 76, 77, 78, 79, 80, 81, 82, 83, 84, 85, 86, 87, 88, 89, 90, 91, 92, 95, 96, 97, 98]
def F_rfl_takeSelect_96 : List Nat := [7, 8, 9, 10, 11, 12]
def A_rfl_takeSelect_96 : List Nat := []
theorem u_rfl_takeSelect_96 (m : mR) : RP (rfl_takeSelect_96 m) (fun z : Int × mR => UR F_rfl_takeSelect_96 A_rfl_takeSelect_96 m z.2) := by
  unfold rfl_takeSelect_96
  refine RP_bnd (u_rf_need 125 m) (fun y2 h1 => ?_)
  have h2 : UR F_rfl_takeSelect_96 A_rfl_takeSelect_96 m y2.2 := (UR_s h1 UR_0 rfl rfl)
  exact RP_some h2
def F_rfl_takeSelect_89 : List Nat := [7, 8, 9, 10, 11, 12]
def A_rfl_takeSelect_89 : List Nat := [44]
theorem u_rfl_takeSelect_89 (u1 : Int) (u2 : Int) (m : mR) : RP (rfl_takeSelect_89 u1 u2 m) (fun z : Int × mR => UR F_rfl_takeSelect_89 A_rfl_takeSelect_89 m z.2) := by
  unfold rfl_takeSelect_89
  refine RP_bnd (u_rf_need 59 (mO m [] [(44, upI (m.2 44) u1 u2)])) (fun y5 h1 => ?_)
  have h2 : UR F_rfl_takeSelect_89 A_rfl_takeSelect_89 m y5.2 := (UR_s h1 (UR_m UR_0 rfl rfl (fun h => h)) rfl rfl)
  exact RP_w (u_rfl_takeSelect_96 y5.2) (fun z hz => (UR_s hz h2 rfl rfl))
def F_rfl_takeSelect_80 : List Nat := [7, 8, 9, 10, 11, 12, 13, 23]
def A_rfl_takeSelect_80 : List Nat := [14, 15, 16, 17, 37, 38, 44]
theorem u_rfl_takeSelect_80 (v1 : Int) (m : mR) : RP (rfl_takeSelect_80 v1 m) (fun z : Int × mR => UR F_rfl_takeSelect_80 A_rfl_takeSelect_80 m z.2) := by
  unfold rfl_takeSelect_80
  refine RP_bnd (u_rf_stateHere m) (fun y8 h1 => ?_)
  have h2 : UR F_rfl_takeSelect_80 A_rfl_takeSelect_80 m y8.2 := (UR_s h1 UR_0 rfl rfl)
  exact RP_w (u_rfl_takeSelect_89 v1 y8.1 y8.2) (fun z hz => (UR_s hz h2 rfl rfl))
def F_rfl_takeSelect_74 : List Nat := [7, 8, 9, 10, 11, 12, 13, 23]
def A_rfl_takeSelect_74 : List Nat := [14, 15, 16, 17, 37, 38, 44]
theorem u_rfl_takeSelect_74 (v1 : Int) (m : mR) : RP (rfl_takeSelect_74 v1 m) (fun z : Int × mR => UR F_rfl_takeSelect_74 A_rfl_takeSelect_74 m z.2) := by
  unfold rfl_takeSelect_74
  refine RP_bnd (u_rf_need 58 m) (fun y11 h1 => ?_)
  have h2 : UR F_rfl_takeSelect_74 A_rfl_takeSelect_74 m y11.2 := (UR_s h1 UR_0 rfl rfl)
  exact RP_w (u_rfl_takeSelect_80 v1 y11.2) (fun z hz => (UR_s hz h2 rfl rfl))
def F_rfl_takeSelect_67 : List Nat := [7, 8, 9, 10, 11, 12, 13, 23]
def A_rfl_takeSelect_67 : List Nat := [14, 15, 16, 17, 37, 38, 44]
theorem u_rfl_takeSelect_67 (v1 : Int) (m : mR) : RP (rfl_takeSelect_67 v1 m) (fun z : Int × mR => UR F_rfl_takeSelect_67 A_rfl_takeSelect_67 m z.2) := by
  unfold rfl_takeSelect_67
  refine RP_bnd (u_rf_need 308 m) (fun y14 h1 => ?_)
  have h2 : UR F_rfl_takeSelect_67 A_rfl_takeSelect_67 m y14.2 := (UR_s h1 UR_0 rfl rfl)
  exact RP_w (u_rfl_takeSelect_74 v1 y14.2) (fun z hz => (UR_s hz h2 rfl rfl))
def F_rfb_takeSelect_44 : List Nat := [7, 8, 9, 10, 11, 12, 13, 23]
def A_rfb_takeSelect_44 : List Nat := [14, 15, 16, 17, 37, 38, 42, 45, 97, 98]
theorem u_rfb_takeSelect_44 (v1 : Int) (s : mR) : RP (rfb_takeSelect_44 v1 s) (sel (fun z : (mR) => UR F_rfb_takeSelect_44 A_rfb_takeSelect_44 s z) (fun z : mR => UR F_rfb_takeSelect_44 A_rfb_takeSelect_44 s z)) := by
  unfold rfb_takeSelect_44
  refine RP_ite (fun h1 => ?_) (fun h1 => ?_)
  · skip
    refine RP_ite (fun h2 => ?_) (fun h2 => ?_)
    · skip
      refine RP_bnd (u_rf_takeCase v1 s) (fun y20 h3 => ?_)
      have h4 : UR F_rfb_takeSelect_44 A_rfb_takeSelect_44 s y20.2 := (UR_s h3 UR_0 rfl rfl)
      exact RP_some h4
    · skip
      exact RP_some UR_0
  · skip
    exact RP_some UR_0
theorem uw_rfb_takeSelect_44 (v1 : Int) (s : mR) : RP (whl (rfb_takeSelect_44 v1) s) (fun z : mR => UR F_rfb_takeSelect_44 A_rfb_takeSelect_44 s z) := RP_whl (I := fun q : mR => UR F_rfb_takeSelect_44 A_rfb_takeSelect_44 s q) (fun q hq => RP_w (u_rfb_takeSelect_44 v1 q) (sl_w (fun z hz => (UR_s hz hq rfl rfl)) (fun z hz => (UR_s hz hq rfl rfl)))) UR_0
def F_rfl_takeSelect_18 : List Nat := [7, 8, 9, 10, 11, 12, 13, 23]
def A_rfl_takeSelect_18 : List Nat := [14, 15, 16, 17, 37, 38, 42, 43, 44, 45, 96, 97, 98]
theorem u_rfl_takeSelect_18 (v1 : Int) (m : mR) : RP (rfl_takeSelect_18 v1 m) (fun z : Int × mR => UR F_rfl_takeSelect_18 A_rfl_takeSelect_18 m z.2) := by
  unfold rfl_takeSelect_18
  refine RP_bnd (u_rf_need 123 (mO m [] [(43, upI (m.2 43) v1 (m.1 69)), (96, upI (m.2 96) v1 (m.1 28))])) (fun y23 h1 => ?_)
  have h2 : UR F_rfl_takeSelect_18 A_rfl_takeSelect_18 m y23.2 := (UR_s h1 (UR_m UR_0 rfl rfl (fun h => h)) rfl rfl)
  refine RP_bnd (uw_rfb_takeSelect_44 v1 y23.2) (fun e26 h3 => ?_)
  have h4 : UR F_rfl_takeSelect_18 A_rfl_takeSelect_18 m e26 := (UR_s h3 h2 rfl rfl)
  exact RP_w (u_rfl_takeSelect_67 v1 e26) (fun z hz => (UR_s hz h4 rfl rfl))
def F_rfl_takeSelect_4 : List Nat := [7, 8, 9, 10, 11, 12, 13, 23, 28, 69, 70, 71, 72, 73, 74, 75]
def A_rfl_takeSelect_4 : List Nat := [14, 15, 16, 17, 37, 38, 42, 43, 44, 45, 65, 66, 67, 68, 76, 77, 78, 79, 80, 81, 82, 83, 84, 85, 86, 87, 88, 89, 90, 91, 92, 95, 96, 97, 98]
theorem u_rfl_takeSelect_4 (v1 : Int) (m : mR) : RP (rfl_takeSelect_4 v1 m) (fun z : Int × mR => UR F_rfl_takeSelect_4 A_rfl_takeSelect_4 m z.2) := by
  unfold rfl_takeSelect_4
  refine RP_bnd (u_rf_readExpr (mO m [] [(95, upI (m.2 95) v1 (m.1 28))])) (fun y29 h1 => ?_)
  have h2 : UR F_rfl_takeSelect_4 A_rfl_takeSelect_4 m y29.2 := (UR_s h1 (UR_m UR_0 rfl rfl (fun h => h)) rfl rfl)
  exact RP_w (u_rfl_takeSelect_18 v1 y29.2) (fun z hz => (UR_s hz h2 rfl rfl))
theorem u_rf_takeSelect (v1 : Int) (m : mR) : RP (rf_takeSelect v1 m) (fun z : Int × mR => UR rF_takeSelect rA_takeSelect m z.2) := by
  unfold rf_takeSelect
  refine RP_bnd (u_rf_next m) (fun y32 h1 => ?_)
  have h2 : UR rF_takeSelect rA_takeSelect m y32.2 := (UR_s h1 UR_0 rfl rfl)
  exact RP_w (u_rfl_takeSelect_4 v1 y32.2) (fun z hz => (UR_s hz h2 rfl rfl))
