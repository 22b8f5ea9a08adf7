def rF_takeState : List Nat := [7, 8, 9, 10, 11, 12, 13, 23, 24, 28, 69, 70, 71, 72, 73, 74, 75]
def rA_takeState : List Nat := [14, 15, 16, 17, 37, 38, 39, 40, 41, 42, 43, 44, 45, 65, 66, 67, 68, 76, 77, 78, 79, 80, 81, 82, 83, 84, 85, 86, 87, 88, 89, 90, 91, 92, 94, 95, 96, 97, 98]
def F_rfl_takeState_337 : List Nat := [7, 8, 9, 10, 11, 12]
def A_rfl_takeState_337 : List Nat := []
theorem u_rfl_takeState_337 (m : mR) : RP (rfl_takeState_337 m) (fun z : Int × mR => UR F_rfl_takeState_337 A_rfl_takeState_337 m z.2) := by
  unfold rfl_takeState_337
  refine RP_bnd (u_rf_need 125 m) (fun y2 h1 => ?_)
  have h2 : UR F_rfl_takeState_337 A_rfl_takeState_337 m y2.2 := (UR_s h1 UR_0 rfl rfl)
  exact RP_some h2
def F_rfl_takeState_305 : List Nat := [7, 8, 9, 10, 11, 12]
def A_rfl_takeState_305 : List Nat := [44]
theorem u_rfl_takeState_305 (u1 : Int) (u2 : Int) (m : mR) : RP (rfl_takeState_305 u1 u2 m) (fun z : Int × mR => UR F_rfl_takeState_305 A_rfl_takeState_305 m z.2) := by
  unfold rfl_takeState_305
  refine RP_bnd (u_rf_need 59 (mO m [] [(44, upI (m.2 44) u1 u2)])) (fun y5 h1 => ?_)
  have h2 : UR F_rfl_takeState_305 A_rfl_takeState_305 m y5.2 := (UR_s h1 (UR_m UR_0 rfl rfl (fun h => h)) rfl rfl)
  exact RP_w (u_rfl_takeState_337 y5.2) (fun z hz => (UR_s hz h2 rfl rfl))
def F_rfl_takeState_296 : List Nat := [7, 8, 9, 10, 11, 12, 13, 23]
def A_rfl_takeState_296 : List Nat := [14, 15, 16, 17, 37, 38, 44]
theorem u_rfl_takeState_296 (v3 : Int) (m : mR) : RP (rfl_takeState_296 v3 m) (fun z : Int × mR => UR F_rfl_takeState_296 A_rfl_takeState_296 m z.2) := by
  unfold rfl_takeState_296
  refine RP_bnd (u_rf_stateHere m) (fun y8 h1 => ?_)
  have h2 : UR F_rfl_takeState_296 A_rfl_takeState_296 m y8.2 := (UR_s h1 UR_0 rfl rfl)
  exact RP_w (u_rfl_takeState_305 v3 y8.1 y8.2) (fun z hz => (UR_s hz h2 rfl rfl))
def F_rfl_takeState_274 : List Nat := [7, 8, 9, 10, 11, 12, 13, 23, 28, 69, 70, 71, 72, 73, 74, 75]
def A_rfl_takeState_274 : List Nat := [14, 15, 16, 17, 37, 38, 42, 43, 44, 45, 65, 66, 67, 68, 76, 77, 78, 79, 80, 81, 82, 83, 84, 85, 86, 87, 88, 89, 90, 91, 92, 95, 96, 97, 98]
theorem u_rfl_takeState_274 (v3 : Int) (m : mR) : RP (rfl_takeState_274 v3 m) (fun z : Int × mR => UR F_rfl_takeState_274 A_rfl_takeState_274 m z.2) := by
  unfold rfl_takeState_274
  refine RP_ite (fun h1 => ?_) (fun h1 => ?_)
  · skip
    refine RP_ite (fun h2 => ?_) (fun h2 => ?_)
    · skip
      refine RP_bnd (u_rf_next m) (fun y20 h3 => ?_)
      have h4 : UR F_rfl_takeState_274 A_rfl_takeState_274 m y20.2 := (UR_s h3 UR_0 rfl rfl)
      exact RP_w (u_rfl_takeState_296 v3 y20.2) (fun z hz => (UR_s hz h4 rfl rfl))
    · skip
      refine RP_ite (fun h5 => ?_) (fun h5 => ?_)
      · skip
        refine RP_bnd (u_rf_takeSelect v3 m) (fun y17 h6 => ?_)
        have h7 : UR F_rfl_takeState_274 A_rfl_takeState_274 m y17.2 := (UR_s h6 UR_0 rfl rfl)
        exact RP_w (u_rfl_takeState_337 y17.2) (fun z hz => (UR_s hz h7 rfl rfl))
      · skip
        refine RP_bnd (u_rf_bad m) (fun y14 h8 => ?_)
        have h9 : UR F_rfl_takeState_274 A_rfl_takeState_274 m y14.2 := (UR_s h8 UR_0 rfl rfl)
        exact RP_w (u_rfl_takeState_337 y14.2) (fun z hz => (UR_s hz h9 rfl rfl))
  · skip
    exact RP_some UR_0
def F_rfb_takeState_249 : List Nat := [7, 8, 9, 10, 11, 12]
def A_rfb_takeState_249 : List Nat := [41, 94]
theorem u_rfb_takeState_249 (v3 : Int) (s : mR) : RP (rfb_takeState_249 v3 s) (sel (fun z : (mR) => UR F_rfb_takeState_249 A_rfb_takeState_249 s z) (fun z : mR => UR F_rfb_takeState_249 A_rfb_takeState_249 s z)) := by
  unfold rfb_takeState_249
  refine RP_ite (fun h1 => ?_) (fun h1 => ?_)
  · skip
    refine RP_ite (fun h2 => ?_) (fun h2 => ?_)
    · skip
      refine RP_bnd (u_rf_takeExtract v3 s) (fun y26 h3 => ?_)
      have h4 : UR F_rfb_takeState_249 A_rfb_takeState_249 s y26.2 := (UR_s h3 UR_0 rfl rfl)
      exact RP_some h4
    · skip
      exact RP_some UR_0
  · skip
    exact RP_some UR_0
theorem uw_rfb_takeState_249 (v3 : Int) (s : mR) : RP (whl (rfb_takeState_249 v3) s) (fun z : mR => UR F_rfb_takeState_249 A_rfb_takeState_249 s z) := RP_whl (I := fun q : mR => UR F_rfb_takeState_249 A_rfb_takeState_249 s q) (fun q hq => RP_w (u_rfb_takeState_249 v3 q) (sl_w (fun z hz => (UR_s hz hq rfl rfl)) (fun z hz => (UR_s hz hq rfl rfl)))) UR_0
def F_rfl_takeState_243 : List Nat := [7, 8, 9, 10, 11, 12, 13, 23, 28, 69, 70, 71, 72, 73, 74, 75]
def A_rfl_takeState_243 : List Nat := [14, 15, 16, 17, 37, 38, 41, 42, 43, 44, 45, 65, 66, 67, 68, 76, 77, 78, 79, 80, 81, 82, 83, 84, 85, 86, 87, 88, 89, 90, 91, 92, 94, 95, 96, 97, 98]
theorem u_rfl_takeState_243 (v3 : Int) (m : mR) : RP (rfl_takeState_243 v3 m) (fun z : Int × mR => UR F_rfl_takeState_243 A_rfl_takeState_243 m z.2) := by
  unfold rfl_takeState_243
  refine RP_bnd (u_rf_need 123 m) (fun y29 h1 => ?_)
  have h2 : UR F_rfl_takeState_243 A_rfl_takeState_243 m y29.2 := (UR_s h1 UR_0 rfl rfl)
  refine RP_bnd (uw_rfb_takeState_249 v3 y29.2) (fun e32 h3 => ?_)
  have h4 : UR F_rfl_takeState_243 A_rfl_takeState_243 m e32 := (UR_s h3 h2 rfl rfl)
  exact RP_w (u_rfl_takeState_274 v3 e32) (fun z hz => (UR_s hz h4 rfl rfl))
def F_rfl_takeState_179 : List Nat := [7, 8, 9, 10, 11, 12, 13, 23, 24, 28, 69, 70, 71, 72, 73, 74, 75]
def A_rfl_takeState_179 : List Nat := [14, 15, 16, 17, 37, 38, 39, 40, 41, 42, 43, 44, 45, 65, 66, 67, 68, 76, 77, 78, 79, 80, 81, 82, 83, 84, 85, 86, 87, 88, 89, 90, 91, 92, 94, 95, 96, 97, 98]
theorem u_rfl_takeState_179 (v2 : Int) (m : mR) : RP (rfl_takeState_179 v2 m) (fun z : Int × mR => UR F_rfl_takeState_179 A_rfl_takeState_179 m z.2) := by
  unfold rfl_takeState_179
  refine RP_bnd (u_rf_next (mO m [(24, cut ((m.1 24) + 1))] [(38, upI (m.2 38) v2 (m.1 24)), (39, upI (m.2 39) (m.1 24) v2), (40, upI (m.2 40) (m.1 24) (m.1 8)), (41, upI (m.2 41) (m.1 24) 0), (42, upI (m.2 42) (m.1 24) 0), (43, upI (m.2 43) (m.1 24) 0)])) (fun y35 h1 => ?_)
  have h2 : UR F_rfl_takeState_179 A_rfl_takeState_179 m y35.2 := (UR_s h1 (UR_m UR_0 rfl rfl (fun h => h)) rfl rfl)
  exact RP_w (u_rfl_takeState_243 (m.1 24) y35.2) (fun z hz => (UR_s hz h2 rfl rfl))
def F_rfl_takeState_169 : List Nat := [7, 8, 9, 10, 11, 12, 13, 23, 24, 28, 69, 70, 71, 72, 73, 74, 75]
def A_rfl_takeState_169 : List Nat := [14, 15, 16, 17, 37, 38, 39, 40, 41, 42, 43, 44, 45, 65, 66, 67, 68, 76, 77, 78, 79, 80, 81, 82, 83, 84, 85, 86, 87, 88, 89, 90, 91, 92, 94, 95, 96, 97, 98]
theorem u_rfl_takeState_169 (v2 : Int) (m : mR) : RP (rfl_takeState_169 v2 m) (fun z : Int × mR => UR F_rfl_takeState_169 A_rfl_takeState_169 m z.2) := by
  unfold rfl_takeState_169
  exact RP_w (u_rfl_takeState_179 v2 (mO m [(23, cut ((m.1 23) + 1))] [])) (fun z hz => (UR_s hz (UR_m UR_0 rfl rfl (fun h => h)) rfl rfl))
def F_rfl_takeState_140 : List Nat := [7, 8, 9, 10, 11, 12, 13, 23, 24, 28, 69, 70, 71, 72, 73, 74, 75]
def A_rfl_takeState_140 : List Nat := [14, 15, 16, 17, 37, 38, 39, 40, 41, 42, 43, 44, 45, 65, 66, 67, 68, 76, 77, 78, 79, 80, 81, 82, 83, 84, 85, 86, 87, 88, 89, 90, 91, 92, 94, 95, 96, 97, 98]
theorem u_rfl_takeState_140 (v1 : Int) (v2 : Int) (m : mR) : RP (rfl_takeState_140 v1 v2 m) (fun z : Int × mR => UR F_rfl_takeState_140 A_rfl_takeState_140 m z.2) := by
  unfold rfl_takeState_140
  refine RP_ite (fun h1 => ?_) (fun h1 => ?_)
  · skip
    refine RP_ite (fun h2 => ?_) (fun h2 => ?_)
    · skip
      refine RP_bnd (u_rf_enter 5 v2 (mO m [] [(37, upI (m.2 37) v2 (m.1 8))])) (fun y40 h3 => ?_)
      have h4 : UR F_rfl_takeState_140 A_rfl_takeState_140 m y40.2 := (UR_s h3 (UR_m UR_0 rfl rfl (fun h => h)) rfl rfl)
      exact RP_w (u_rfl_takeState_169 v2 y40.2) (fun z hz => (UR_s hz h4 rfl rfl))
    · skip
      exact RP_w (u_rfl_takeState_179 v2 m) (fun z hz => (UR_s hz UR_0 rfl rfl))
  · skip
    exact RP_some UR_0
def F_rfl_takeState_133 : List Nat := [7, 8, 9, 10, 11, 12, 13, 23, 24, 28, 69, 70, 71, 72, 73, 74, 75]
def A_rfl_takeState_133 : List Nat := [14, 15, 16, 17, 37, 38, 39, 40, 41, 42, 43, 44, 45, 65, 66, 67, 68, 76, 77, 78, 79, 80, 81, 82, 83, 84, 85, 86, 87, 88, 89, 90, 91, 92, 94, 95, 96, 97, 98]
theorem u_rfl_takeState_133 (v1 : Int) (v2 : Int) (u1 : Int) (m : mR) : RP (rfl_takeState_133 v1 v2 u1 m) (fun z : Int × mR => UR F_rfl_takeState_133 A_rfl_takeState_133 m z.2) := by
  unfold rfl_takeState_133
  refine RP_bnd (u_rf_wrong u1 (m.1 8) m) (fun y43 h1 => ?_)
  have h2 : UR F_rfl_takeState_133 A_rfl_takeState_133 m y43.2 := (UR_s h1 UR_0 rfl rfl)
  exact RP_w (u_rfl_takeState_140 v1 v2 y43.2) (fun z hz => (UR_s hz h2 rfl rfl))
def F_rfl_takeState_113 : List Nat := [7, 8, 9, 10, 11, 12, 13, 23, 24, 28, 69, 70, 71, 72, 73, 74, 75]
def A_rfl_takeState_113 : List Nat := [14, 15, 16, 17, 37, 38, 39, 40, 41, 42, 43, 44, 45, 65, 66, 67, 68, 76, 77, 78, 79, 80, 81, 82, 83, 84, 85, 86, 87, 88, 89, 90, 91, 92, 94, 95, 96, 97, 98]
theorem u_rfl_takeState_113 (v1 : Int) (v2 : Int) (m : mR) : RP (rfl_takeState_113 v1 v2 m) (fun z : Int × mR => UR F_rfl_takeState_113 A_rfl_takeState_113 m z.2) := by
  unfold rfl_takeState_113
  refine RP_ite (fun h1 => ?_) (fun h1 => ?_)
  · skip
    exact RP_w (u_rfl_takeState_140 v1 v2 m) (fun z hz => (UR_s hz UR_0 rfl rfl))
  · skip
    refine RP_ite (fun h2 => ?_) (fun h2 => ?_)
    · skip
      exact RP_w (u_rfl_takeState_133 v1 v2 4 m) (fun z hz => (UR_s hz UR_0 rfl rfl))
    · skip
      exact RP_w (u_rfl_takeState_133 v1 v2 3 m) (fun z hz => (UR_s hz UR_0 rfl rfl))
def F_rfl_takeState_77 : List Nat := [7, 8, 9, 10, 11, 12, 13, 23, 24, 28, 69, 70, 71, 72, 73, 74, 75]
def A_rfl_takeState_77 : List Nat := [14, 15, 16, 17, 37, 38, 39, 40, 41, 42, 43, 44, 45, 65, 66, 67, 68, 76, 77, 78, 79, 80, 81, 82, 83, 84, 85, 86, 87, 88, 89, 90, 91, 92, 94, 95, 96, 97, 98]
theorem u_rfl_takeState_77 (v1 : Int) (v2 : Int) (u1 : Int) (m : mR) : RP (rfl_takeState_77 v1 v2 u1 m) (fun z : Int × mR => UR F_rfl_takeState_77 A_rfl_takeState_77 m z.2) := by
  unfold rfl_takeState_77
  refine RP_bnd (u_rf_wrong u1 (m.1 8) m) (fun y48 h1 => ?_)
  have h2 : UR F_rfl_takeState_77 A_rfl_takeState_77 m y48.2 := (UR_s h1 UR_0 rfl rfl)
  exact RP_w (u_rfl_takeState_140 v1 v2 y48.2) (fun z hz => (UR_s hz h2 rfl rfl))
def F_rfl_takeState_76 : List Nat := [7, 8, 9, 10, 11, 12, 13, 23, 24, 28, 69, 70, 71, 72, 73, 74, 75]
def A_rfl_takeState_76 : List Nat := [14, 15, 16, 17, 37, 38, 39, 40, 41, 42, 43, 44, 45, 65, 66, 67, 68, 76, 77, 78, 79, 80, 81, 82, 83, 84, 85, 86, 87, 88, 89, 90, 91, 92, 94, 95, 96, 97, 98]
theorem u_rfl_takeState_76 (v1 : Int) (v2 : Int) (m : mR) : RP (rfl_takeState_76 v1 v2 m) (fun z : Int × mR => UR F_rfl_takeState_76 A_rfl_takeState_76 m z.2) := by
  unfold rfl_takeState_76
  exact RP_w (u_rfl_takeState_77 v1 v2 3 m) (fun z hz => (UR_s hz UR_0 rfl rfl))
def F_rfl_takeState_58 : List Nat := [7, 8, 9, 10, 11, 12, 13, 23, 24, 28, 69, 70, 71, 72, 73, 74, 75]
def A_rfl_takeState_58 : List Nat := [14, 15, 16, 17, 37, 38, 39, 40, 41, 42, 43, 44, 45, 65, 66, 67, 68, 76, 77, 78, 79, 80, 81, 82, 83, 84, 85, 86, 87, 88, 89, 90, 91, 92, 94, 95, 96, 97, 98]
theorem u_rfl_takeState_58 (v1 : Int) (v2 : Int) (m : mR) : RP (rfl_takeState_58 v1 v2 m) (fun z : Int × mR => UR F_rfl_takeState_58 A_rfl_takeState_58 m z.2) := by
  unfold rfl_takeState_58
  refine RP_ite (fun h1 => ?_) (fun h1 => ?_)
  · skip
    exact RP_w (u_rfl_takeState_76 v1 v2 m) (fun z hz => (UR_s hz UR_0 rfl rfl))
  · skip
    refine RP_ite (fun h2 => ?_) (fun h2 => ?_)
    · skip
      exact RP_w (u_rfl_takeState_77 v1 v2 4 m) (fun z hz => (UR_s hz UR_0 rfl rfl))
    · skip
      exact RP_w (u_rfl_takeState_76 v1 v2 m) (fun z hz => (UR_s hz UR_0 rfl rfl))
def F_rfl_takeState_4 : List Nat := [7, 8, 9, 10, 11, 12, 13, 23, 24, 28, 69, 70, 71, 72, 73, 74, 75]
def A_rfl_takeState_4 : List Nat := [14, 15, 16, 17, 37, 38, 39, 40, 41, 42, 43, 44, 45, 65, 66, 67, 68, 76, 77, 78, 79, 80, 81, 82, 83, 84, 85, 86, 87, 88, 89, 90, 91, 92, 94, 95, 96, 97, 98]
theorem u_rfl_takeState_4 (m : mR) : RP (rfl_takeState_4 m) (fun z : Int × mR => UR F_rfl_takeState_4 A_rfl_takeState_4 m z.2) := by
  unfold rfl_takeState_4
  refine RP_ite (fun h1 => ?_) (fun h1 => ?_)
  · skip
    refine RP_ite (fun h2 => ?_) (fun h2 => ?_)
    · skip
      refine RP_bndT (fun y55 => ?_)
      refine RP_ite (fun h3 => ?_) (fun h3 => ?_)
      · skip
        refine RP_bndT (fun y63 => ?_)
        refine RP_ite (fun h4 => ?_) (fun h4 => ?_)
        · skip
          exact RP_w (u_rfl_takeState_58 y55 y63 m) (fun z hz => (UR_s hz UR_0 rfl rfl))
        · skip
          refine RP_ite (fun h5 => ?_) (fun h5 => ?_)
          · skip
            exact RP_w (u_rfl_takeState_140 y55 y63 m) (fun z hz => (UR_s hz UR_0 rfl rfl))
          · skip
            exact RP_w (u_rfl_takeState_58 y55 y63 m) (fun z hz => (UR_s hz UR_0 rfl rfl))
      · skip
        refine RP_ite (fun h6 => ?_) (fun h6 => ?_)
        · skip
          refine RP_ite (fun h7 => ?_) (fun h7 => ?_)
          · skip
            refine RP_bnd (u_rf_wrong 4 (m.1 8) m) (fun y60 h8 => ?_)
            have h9 : UR F_rfl_takeState_4 A_rfl_takeState_4 m y60.2 := (UR_s h8 UR_0 rfl rfl)
            exact RP_w (u_rfl_takeState_140 y55 (m.1 23) y60.2) (fun z hz => (UR_s hz h9 rfl rfl))
          · skip
            exact RP_w (u_rfl_takeState_113 y55 (m.1 23) m) (fun z hz => (UR_s hz UR_0 rfl rfl))
        · skip
          exact RP_w (u_rfl_takeState_113 y55 (m.1 23) m) (fun z hz => (UR_s hz UR_0 rfl rfl))
    · skip
      refine RP_bnd (u_rf_bad m) (fun y67 h10 => ?_)
      have h11 : UR F_rfl_takeState_4 A_rfl_takeState_4 m y67.2 := (UR_s h10 UR_0 rfl rfl)
      exact RP_some h11
  · skip
    exact RP_some UR_0
theorem u_rf_takeState (m : mR) : RP (rf_takeState m) (fun z : Int × mR => UR rF_takeState rA_takeState m z.2) := by
  unfold rf_takeState
  refine RP_bnd (u_rf_next m) (fun y70 h1 => ?_)
  have h2 : UR rF_takeState rA_takeState m y70.2 := (UR_s h1 UR_0 rfl rfl)
  exact RP_w (u_rfl_takeState_4 y70.2) (fun z hz => (UR_s hz h2 rfl rfl))
def rF_takeParameter : List Nat := [7, 8, 9, 10, 11, 12]
def rA_takeParameter : List Nat := [46, 47, 48, 49]
def F_rfl_takeParameter_153 : List Nat := []
def A_rfl_takeParameter_153 : List Nat := [46, 49]
theorem u_rfl_takeParameter_153 (v1 : Int) (u1 : Int) (u2 : Int) (m : mR) : RP (rfl_takeParameter_153 v1 u1 u2 m) (fun z : Int × mR => UR F_rfl_takeParameter_153 A_rfl_takeParameter_153 m z.2) := by
  unfold rfl_takeParameter_153
  exact RP_some (UR_m UR_0 rfl rfl (fun h => h))
def F_rfl_takeParameter_141 : List Nat := [7, 8, 9, 10, 11, 12]
def A_rfl_takeParameter_141 : List Nat := [46, 49]
theorem u_rfl_takeParameter_141 (v1 : Int) (v2 : Int) (m : mR) : RP (rfl_takeParameter_141 v1 v2 m) (fun z : Int × mR => UR F_rfl_takeParameter_141 A_rfl_takeParameter_141 m z.2) := by
  unfold rfl_takeParameter_141
  refine RP_bnd (u_rf_number 1 64 m) (fun y2 h1 => ?_)
  have h2 : UR F_rfl_takeParameter_141 A_rfl_takeParameter_141 m y2.2 := (UR_s h1 UR_0 rfl rfl)
  exact RP_w (u_rfl_takeParameter_153 v1 v2 y2.1 y2.2) (fun z hz => (UR_s hz h2 rfl rfl))
def F_rfl_takeParameter_135 : List Nat := [7, 8, 9, 10, 11, 12]
def A_rfl_takeParameter_135 : List Nat := [46, 49]
theorem u_rfl_takeParameter_135 (v1 : Int) (v2 : Int) (m : mR) : RP (rfl_takeParameter_135 v1 v2 m) (fun z : Int × mR => UR F_rfl_takeParameter_135 A_rfl_takeParameter_135 m z.2) := by
  unfold rfl_takeParameter_135
  refine RP_bnd (u_rf_need 58 m) (fun y5 h1 => ?_)
  have h2 : UR F_rfl_takeParameter_135 A_rfl_takeParameter_135 m y5.2 := (UR_s h1 UR_0 rfl rfl)
  exact RP_w (u_rfl_takeParameter_141 v1 v2 y5.2) (fun z hz => (UR_s hz h2 rfl rfl))
def F_rfl_takeParameter_103 : List Nat := [7, 8, 9, 10, 11, 12]
def A_rfl_takeParameter_103 : List Nat := [46, 47, 48, 49]
theorem u_rfl_takeParameter_103 (v1 : Int) (v2 : Int) (m : mR) : RP (rfl_takeParameter_103 v1 v2 m) (fun z : Int × mR => UR F_rfl_takeParameter_103 A_rfl_takeParameter_103 m z.2) := by
  unfold rfl_takeParameter_103
  refine RP_ite (fun h1 => ?_) (fun h1 => ?_)
  · skip
    refine RP_bnd (u_rf_next (mO m [] [(47, upI (m.2 47) v2 (m.1 8)), (48, upI (m.2 48) v2 (m.1 9))])) (fun y9 h2 => ?_)
    have h3 : UR F_rfl_takeParameter_103 A_rfl_takeParameter_103 m y9.2 := (UR_s h2 (UR_m UR_0 rfl rfl (fun h => h)) rfl rfl)
    exact RP_w (u_rfl_takeParameter_135 v1 v2 y9.2) (fun z hz => (UR_s hz h3 rfl rfl))
  · skip
    exact RP_some UR_0
def F_rfl_takeParameter_97 : List Nat := []
def A_rfl_takeParameter_97 : List Nat := []
theorem u_rfl_takeParameter_97 (v1 : Int) (v2 : Int) (v3 : Int) (m : mR) : RP (rfl_takeParameter_97 v1 v2 v3 m) (sel (fun z : (Int × mR) => UR F_rfl_takeParameter_97 A_rfl_takeParameter_97 m z.2) (fun z : mR => UR F_rfl_takeParameter_97 A_rfl_takeParameter_97 m z)) := by
  unfold rfl_takeParameter_97
  exact RP_some UR_0
def F_rfb_takeParameter_57 : List Nat := [10, 11]
def A_rfb_takeParameter_57 : List Nat := []
theorem u_rfb_takeParameter_57 (v1 : Int) (v2 : Int) (s : Int × mR) : RP (rfb_takeParameter_57 v1 v2 s) (sel (fun z : (Int × mR) => UR F_rfb_takeParameter_57 A_rfb_takeParameter_57 s.2 z.2) (fun z : mR => UR F_rfb_takeParameter_57 A_rfb_takeParameter_57 s.2 z)) := by
  unfold rfb_takeParameter_57
  refine RP_ite (fun h1 => ?_) (fun h1 => ?_)
  · skip
    exact RP_some UR_0
  · skip
    refine RP_ite (fun h2 => ?_) (fun h2 => ?_)
    · skip
      refine RP_bndT (fun y15 => ?_)
      refine RP_ite (fun h3 => ?_) (fun h3 => ?_)
      · skip
        exact RP_w (u_rfl_takeParameter_97 v1 v2 s.1 s.2) (sl_w (fun z hz => (UR_s hz UR_0 rfl rfl)) (fun z hz => (UR_s hz UR_0 rfl rfl)))
      · skip
        refine RP_bnd (u_rf_wrong 3 (s.2.1 8) s.2) (fun y18 h4 => ?_)
        have h5 : UR F_rfb_takeParameter_57 A_rfb_takeParameter_57 s.2 y18.2 := (UR_s h4 UR_0 rfl rfl)
        exact RP_w (u_rfl_takeParameter_97 v1 v2 s.1 y18.2) (sl_w (fun z hz => (UR_s hz h5 rfl rfl)) (fun z hz => (UR_s hz h5 rfl rfl)))
    · skip
      exact RP_some UR_0
theorem uw_rfb_takeParameter_57 (v1 : Int) (v2 : Int) (s : Int × mR) : RP (whl (rfb_takeParameter_57 v1 v2) s) (fun z : mR => UR F_rfb_takeParameter_57 A_rfb_takeParameter_57 s.2 z) := RP_whl (I := fun q : Int × mR => UR F_rfb_takeParameter_57 A_rfb_takeParameter_57 s.2 q.2) (fun q hq => RP_w (u_rfb_takeParameter_57 v1 v2 q) (sl_w (fun z hz => (UR_s hz hq rfl rfl)) (fun z hz => (UR_s hz hq rfl rfl)))) UR_0
def F_rfl_takeParameter_53 : List Nat := [7, 8, 9, 10, 11, 12]
def A_rfl_takeParameter_53 : List Nat := [46, 47, 48, 49]
theorem u_rfl_takeParameter_53 (v1 : Int) (v2 : Int) (m : mR) : RP (rfl_takeParameter_53 v1 v2 m) (fun z : Int × mR => UR F_rfl_takeParameter_53 A_rfl_takeParameter_53 m z.2) := by
  unfold rfl_takeParameter_53
  refine RP_bnd (uw_rfb_takeParameter_57 v1 v2 (cut (4 * v1), m)) (fun e21 h1 => ?_)
  have h2 : UR F_rfl_takeParameter_53 A_rfl_takeParameter_53 m e21 := (UR_s h1 UR_0 rfl rfl)
  exact RP_w (u_rfl_takeParameter_103 v1 v2 e21) (fun z hz => (UR_s hz h2 rfl rfl))
theorem u_rf_takeParameter (v1 : Int) (m : mR) : RP (rf_takeParameter v1 m) (fun z : Int × mR => UR rF_takeParameter rA_takeParameter m z.2) := by
  unfold rf_takeParameter
  refine RP_ite (fun h1 => ?_) (fun h1 => ?_)
  · skip
    refine RP_ite (fun h2 => ?_) (fun h2 => ?_)
    · skip
      refine RP_ite (fun h3 => ?_) (fun h3 => ?_)
      · skip
        refine RP_bnd (u_rf_wrong 4 (m.1 8) m) (fun y27 h4 => ?_)
        have h5 : UR rF_takeParameter rA_takeParameter m y27.2 := (UR_s h4 UR_0 rfl rfl)
        exact RP_w (u_rfl_takeParameter_53 v1 (cut ((cut (4 * v1)) + ((m.2 46) v1))) y27.2) (fun z hz => (UR_s hz h5 rfl rfl))
      · skip
        exact RP_w (u_rfl_takeParameter_53 v1 (cut ((cut (4 * v1)) + ((m.2 46) v1))) m) (fun z hz => (UR_s hz UR_0 rfl rfl))
    · skip
      refine RP_bnd (u_rf_bad m) (fun y30 h6 => ?_)
      have h7 : UR rF_takeParameter rA_takeParameter m y30.2 := (UR_s h6 UR_0 rfl rfl)
      exact RP_w (u_rfl_takeParameter_53 v1 (cut ((cut (4 * v1)) + ((m.2 46) v1))) y30.2) (fun z hz => (UR_s hz h7 rfl rfl))
  · skip
    exact RP_some UR_0
def rF_takePlace : List Nat := [7, 8, 9, 10, 11, 12, 100]
def rA_takePlace : List Nat := []
def F_rfl_takePlace_123 : List Nat := [100]
def A_rfl_takePlace_123 : List Nat := []
theorem u_rfl_takePlace_123 (u0 : Int) (m : mR) : RP (rfl_takePlace_123 u0 m) (fun z : Int × mR => UR F_rfl_takePlace_123 A_rfl_takePlace_123 m z.2) := by
  unfold rfl_takePlace_123
  refine RP_ite (fun h1 => ?_) (fun h1 => ?_)
  · skip
    refine RP_bndT (fun y2 => ?_)
    exact RP_some (UR_m UR_0 rfl rfl (fun h => h))
  · skip
    exact RP_some UR_0
def F_rfl_takePlace_118 : List Nat := [7, 8, 9, 10, 11, 12, 100]
def A_rfl_takePlace_118 : List Nat := []
theorem u_rfl_takePlace_118 (v2 : Int) (m : mR) : RP (rfl_takePlace_118 v2 m) (fun z : Int × mR => UR F_rfl_takePlace_118 A_rfl_takePlace_118 m z.2) := by
  unfold rfl_takePlace_118
  refine RP_bnd (u_rf_takeField v2 m) (fun y4 h1 => ?_)
  have h2 : UR F_rfl_takePlace_118 A_rfl_takePlace_118 m y4.2 := (UR_s h1 UR_0 rfl rfl)
  exact RP_w (u_rfl_takePlace_123 y4.1 y4.2) (fun z hz => (UR_s hz h2 rfl rfl))
def F_rfl_takePlace_86 : List Nat := [7, 8, 9, 10, 11, 12, 100]
def A_rfl_takePlace_86 : List Nat := []
theorem u_rfl_takePlace_86 (v1 : Int) (v2 : Int) (m : mR) : RP (rfl_takePlace_86 v1 v2 m) (fun z : Int × mR => UR F_rfl_takePlace_86 A_rfl_takePlace_86 m z.2) := by
  unfold rfl_takePlace_86
  refine RP_ite (fun h1 => ?_) (fun h1 => ?_)
  · skip
    refine RP_ite (fun h2 => ?_) (fun h2 => ?_)
    · skip
      exact RP_some (UR_m UR_0 rfl rfl (fun h => h))
    · skip
      refine RP_bnd (u_rf_need 46 m) (fun y9 h3 => ?_)
      have h4 : UR F_rfl_takePlace_86 A_rfl_takePlace_86 m y9.2 := (UR_s h3 UR_0 rfl rfl)
      exact RP_w (u_rfl_takePlace_118 v2 y9.2) (fun z hz => (UR_s hz h4 rfl rfl))
  · skip
    exact RP_some UR_0
def F_rfl_takePlace_82 : List Nat := [7, 8, 9, 10, 11, 12, 100]
def A_rfl_takePlace_82 : List Nat := []
theorem u_rfl_takePlace_82 (v1 : Int) (v2 : Int) (m : mR) : RP (rfl_takePlace_82 v1 v2 m) (fun z : Int × mR => UR F_rfl_takePlace_82 A_rfl_takePlace_82 m z.2) := by
  unfold rfl_takePlace_82
  refine RP_bnd (u_rf_next m) (fun y12 h1 => ?_)
  have h2 : UR F_rfl_takePlace_82 A_rfl_takePlace_82 m y12.2 := (UR_s h1 UR_0 rfl rfl)
  exact RP_w (u_rfl_takePlace_86 v1 v2 y12.2) (fun z hz => (UR_s hz h2 rfl rfl))
def F_rfl_takePlace_72 : List Nat := [7, 8, 9, 10, 11, 12, 100]
def A_rfl_takePlace_72 : List Nat := []
theorem u_rfl_takePlace_72 (v1 : Int) (v2 : Int) (m : mR) : RP (rfl_takePlace_72 v1 v2 m) (fun z : Int × mR => UR F_rfl_takePlace_72 A_rfl_takePlace_72 m z.2) := by
  unfold rfl_takePlace_72
  refine RP_bnd (u_rf_wrong 6 (m.1 8) m) (fun y15 h1 => ?_)
  have h2 : UR F_rfl_takePlace_72 A_rfl_takePlace_72 m y15.2 := (UR_s h1 UR_0 rfl rfl)
  exact RP_w (u_rfl_takePlace_82 v1 v2 y15.2) (fun z hz => (UR_s hz h2 rfl rfl))
def F_rfl_takePlace_62 : List Nat := [7, 8, 9, 10, 11, 12, 100]
def A_rfl_takePlace_62 : List Nat := []
theorem u_rfl_takePlace_62 (v1 : Int) (v2 : Int) (m : mR) : RP (rfl_takePlace_62 v1 v2 m) (fun z : Int × mR => UR F_rfl_takePlace_62 A_rfl_takePlace_62 m z.2) := by
  unfold rfl_takePlace_62
  refine RP_ite (fun h1 => ?_) (fun h1 => ?_)
  · skip
    refine RP_ite (fun h2 => ?_) (fun h2 => ?_)
    · skip
      exact RP_w (u_rfl_takePlace_82 v1 v2 m) (fun z hz => (UR_s hz UR_0 rfl rfl))
    · skip
      exact RP_w (u_rfl_takePlace_72 v1 v2 m) (fun z hz => (UR_s hz UR_0 rfl rfl))
  · skip
    exact RP_w (u_rfl_takePlace_82 v1 v2 m) (fun z hz => (UR_s hz UR_0 rfl rfl))
def F_rfl_takePlace_51 : List Nat := [7, 8, 9, 10, 11, 12, 100]
def A_rfl_takePlace_51 : List Nat := []
theorem u_rfl_takePlace_51 (v1 : Int) (u0 : Int) (m : mR) : RP (rfl_takePlace_51 v1 u0 m) (fun z : Int × mR => UR F_rfl_takePlace_51 A_rfl_takePlace_51 m z.2) := by
  unfold rfl_takePlace_51
  refine RP_ite (fun h1 => ?_) (fun h1 => ?_)
  · skip
    exact RP_w (u_rfl_takePlace_62 v1 u0 m) (fun z hz => (UR_s hz UR_0 rfl rfl))
  · skip
    refine RP_ite (fun h2 => ?_) (fun h2 => ?_)
    · skip
      exact RP_w (u_rfl_takePlace_62 v1 u0 m) (fun z hz => (UR_s hz UR_0 rfl rfl))
    · skip
      exact RP_w (u_rfl_takePlace_72 v1 u0 m) (fun z hz => (UR_s hz UR_0 rfl rfl))
def F_rfl_takePlace_43 : List Nat := [7, 8, 9, 10, 11, 12, 100]
def A_rfl_takePlace_43 : List Nat := []
theorem u_rfl_takePlace_43 (v1 : Int) (m : mR) : RP (rfl_takePlace_43 v1 m) (fun z : Int × mR => UR F_rfl_takePlace_43 A_rfl_takePlace_43 m z.2) := by
  unfold rfl_takePlace_43
  refine RP_bndT (fun y22 => ?_)
  exact RP_w (u_rfl_takePlace_51 v1 y22 m) (fun z hz => (UR_s hz UR_0 rfl rfl))
theorem u_rf_takePlace (m : mR) : RP (rf_takePlace m) (fun z : Int × mR => UR rF_takePlace rA_takePlace m z.2) := by
  unfold rf_takePlace
  refine RP_ite (fun h1 => ?_) (fun h1 => ?_)
  · skip
    refine RP_ite (fun h2 => ?_) (fun h2 => ?_)
    · skip
      refine RP_bndT (fun y26 => ?_)
      refine RP_ite (fun h3 => ?_) (fun h3 => ?_)
      · skip
        exact RP_w (u_rfl_takePlace_43 y26 (mO m [(100, 1)] [])) (fun z hz => (UR_s hz (UR_m UR_0 rfl rfl (fun h => h)) rfl rfl))
      · skip
        refine RP_ite (fun h4 => ?_) (fun h4 => ?_)
        · skip
          exact RP_w (u_rfl_takePlace_43 y26 (mO m [(100, 1)] [])) (fun z hz => (UR_s hz (UR_m UR_0 rfl rfl (fun h => h)) rfl rfl))
        · skip
          exact RP_w (u_rfl_takePlace_51 y26 0 (mO m [(100, 1)] [])) (fun z hz => (UR_s hz (UR_m UR_0 rfl rfl (fun h => h)) rfl rfl))
    · skip
      refine RP_bnd (u_rf_bad (mO m [(100, 1)] [])) (fun y30 h5 => ?_)
      have h6 : UR rF_takePlace rA_takePlace m y30.2 := (UR_s h5 (UR_m UR_0 rfl rfl (fun h => h)) rfl rfl)
      exact RP_some h6
  · skip
    exact RP_some (UR_m UR_0 rfl rfl (fun h => h))
def rF_exprOf : List Nat := [7, 8, 9, 10, 11, 12, 28, 69, 70, 71, 72, 73, 74, 75]
def rA_exprOf : List Nat := [65, 66, 67, 68, 76, 77, 78, 79, 80, 81, 82, 83, 84, 85, 86, 87, 88, 89, 90, 91, 92]
def F_rfl_exprOf_43 : List Nat := [10, 11]
def A_rfl_exprOf_43 : List Nat := []
theorem u_rfl_exprOf_43 (u1 : Int) (m : mR) : RP (rfl_exprOf_43 u1 m) (fun z : Int × mR => UR F_rfl_exprOf_43 A_rfl_exprOf_43 m z.2) := by
  unfold rfl_exprOf_43
  refine RP_bnd (u_rf_want u1 (m.1 70) m) (fun y1 h1 => ?_)
  have h2 : UR F_rfl_exprOf_43 A_rfl_exprOf_43 m y1.2 := (UR_s h1 UR_0 rfl rfl)
  exact RP_some h2
def F_rfl_exprOf_4 : List Nat := [10, 11]
def A_rfl_exprOf_4 : List Nat := []
theorem u_rfl_exprOf_4 (v1 : Int) (m : mR) : RP (rfl_exprOf_4 v1 m) (fun z : Int × mR => UR F_rfl_exprOf_4 A_rfl_exprOf_4 m z.2) := by
  unfold rfl_exprOf_4
  refine RP_ite (fun h1 => ?_) (fun h1 => ?_)
  · skip
    refine RP_ite (fun h2 => ?_) (fun h2 => ?_)
    · skip
      refine RP_ite (fun h3 => ?_) (fun h3 => ?_)
      · skip
        exact RP_w (u_rfl_exprOf_43 1 m) (fun z hz => (UR_s hz UR_0 rfl rfl))
      · skip
        exact RP_w (u_rfl_exprOf_43 0 m) (fun z hz => (UR_s hz UR_0 rfl rfl))
    · skip
      refine RP_bndT (fun y7 => ?_)
      exact RP_w (u_rfl_exprOf_43 y7 m) (fun z hz => (UR_s hz UR_0 rfl rfl))
  · skip
    exact RP_some UR_0
theorem u_rf_exprOf (v1 : Int) (m : mR) : RP (rf_exprOf v1 m) (fun z : Int × mR => UR rF_exprOf rA_exprOf m z.2) := by
  unfold rf_exprOf
  refine RP_bnd (u_rf_readExpr m) (fun y9 h1 => ?_)
  have h2 : UR rF_exprOf rA_exprOf m y9.2 := (UR_s h1 UR_0 rfl rfl)
  exact RP_w (u_rfl_exprOf_4 v1 y9.2) (fun z hz => (UR_s hz h2 rfl rfl))
def rF_takeWorth : List Nat := [7, 8, 9, 10, 11, 12, 28, 69, 70, 71, 72, 73, 74, 75]
def rA_takeWorth : List Nat := [65, 66, 67, 68, 76, 77, 78, 79, 80, 81, 82, 83, 84, 85, 86, 87, 88, 89, 90, 91, 92, 107, 108]
def F_rfl_takeWorth_22 : List Nat := []
def A_rfl_takeWorth_22 : List Nat := [108]
theorem u_rfl_takeWorth_22 (v1 : Int) (m : mR) : RP (rfl_takeWorth_22 v1 m) (fun z : Int × mR => UR F_rfl_takeWorth_22 A_rfl_takeWorth_22 m z.2) := by
  unfold rfl_takeWorth_22
  exact RP_some (UR_m UR_0 rfl rfl (fun h => h))
theorem u_rf_takeWorth (v1 : Int) (v2 : Int) (m : mR) : RP (rf_takeWorth v1 v2 m) (fun z : Int × mR => UR rF_takeWorth rA_takeWorth m z.2) := by
  unfold rf_takeWorth
  refine RP_ite (fun h1 => ?_) (fun h1 => ?_)
  · skip
    refine RP_bnd (u_rf_exprOf v2 (mO m [] [(107, upI (m.2 107) v1 (m.1 28))])) (fun y2 h2 => ?_)
    have h3 : UR rF_takeWorth rA_takeWorth m y2.2 := (UR_s h2 (UR_m UR_0 rfl rfl (fun h => h)) rfl rfl)
    exact RP_w (u_rfl_takeWorth_22 v1 y2.2) (fun z hz => (UR_s hz h3 rfl rfl))
  · skip
    exact RP_w (u_rfl_takeWorth_22 v1 (mO m [] [(107, upI (m.2 107) v1 (m.1 28))])) (fun z hz => (UR_s hz (UR_m UR_0 rfl rfl (fun h => h)) rfl rfl))
def rF_takeIndex : List Nat := [7, 8, 9, 10, 11, 12, 28, 69, 70, 71, 72, 73, 74, 75]
def rA_takeIndex : List Nat := [65, 66, 67, 68, 76, 77, 78, 79, 80, 81, 82, 83, 84, 85, 86, 87, 88, 89, 90, 91, 92, 105, 106]
def F_rfl_takeIndex_27 : List Nat := [7, 8, 9, 10, 11, 12]
def A_rfl_takeIndex_27 : List Nat := [106]
theorem u_rfl_takeIndex_27 (v1 : Int) (m : mR) : RP (rfl_takeIndex_27 v1 m) (fun z : Int × mR => UR F_rfl_takeIndex_27 A_rfl_takeIndex_27 m z.2) := by
  unfold rfl_takeIndex_27
  refine RP_bnd (u_rf_need 93 (mO m [] [(106, upI (m.2 106) v1 (m.1 28))])) (fun y1 h1 => ?_)
  have h2 : UR F_rfl_takeIndex_27 A_rfl_takeIndex_27 m y1.2 := (UR_s h1 (UR_m UR_0 rfl rfl (fun h => h)) rfl rfl)
  exact RP_some h2
def F_rfl_takeIndex_6 : List Nat := [7, 8, 9, 10, 11, 12, 28, 69, 70, 71, 72, 73, 74, 75]
def A_rfl_takeIndex_6 : List Nat := [65, 66, 67, 68, 76, 77, 78, 79, 80, 81, 82, 83, 84, 85, 86, 87, 88, 89, 90, 91, 92, 105, 106]
theorem u_rfl_takeIndex_6 (v1 : Int) (m : mR) : RP (rfl_takeIndex_6 v1 m) (fun z : Int × mR => UR F_rfl_takeIndex_6 A_rfl_takeIndex_6 m z.2) := by
  unfold rfl_takeIndex_6
  refine RP_ite (fun h1 => ?_) (fun h1 => ?_)
  · skip
    refine RP_bnd (u_rf_readExpr (mO m [] [(105, upI (m.2 105) v1 (m.1 28))])) (fun y5 h2 => ?_)
    have h3 : UR F_rfl_takeIndex_6 A_rfl_takeIndex_6 m y5.2 := (UR_s h2 (UR_m UR_0 rfl rfl (fun h => h)) rfl rfl)
    exact RP_w (u_rfl_takeIndex_27 v1 y5.2) (fun z hz => (UR_s hz h3 rfl rfl))
  · skip
    exact RP_w (u_rfl_takeIndex_27 v1 (mO m [] [(105, upI (m.2 105) v1 (m.1 28))])) (fun z hz => (UR_s hz (UR_m UR_0 rfl rfl (fun h => h)) rfl rfl))
theorem u_rf_takeIndex (v1 : Int) (m : mR) : RP (rf_takeIndex v1 m) (fun z : Int × mR => UR rF_takeIndex rA_takeIndex m z.2) := by
  unfold rf_takeIndex
  refine RP_bnd (u_rf_need 91 m) (fun y8 h1 => ?_)
  have h2 : UR rF_takeIndex rA_takeIndex m y8.2 := (UR_s h1 UR_0 rfl rfl)
  exact RP_w (u_rfl_takeIndex_6 v1 y8.2) (fun z hz => (UR_s hz h2 rfl rfl))
def rF_takeStatement : List Nat := [7, 8, 9, 10, 11, 12, 28, 69, 70, 71, 72, 73, 74, 75, 99, 100]
def rA_takeStatement : List Nat := [65, 66, 67, 68, 76, 77, 78, 79, 80, 81, 82, 83, 84, 85, 86, 87, 88, 89, 90, 91, 92, 101, 102, 103, 104, 105, 106, 107, 108]
def F_rfl_takeStatement_229 : List Nat := [7, 8, 9, 10, 11, 12]
def A_rfl_takeStatement_229 : List Nat := []
theorem u_rfl_takeStatement_229 (m : mR) : RP (rfl_takeStatement_229 m) (fun z : Int × mR => UR F_rfl_takeStatement_229 A_rfl_takeStatement_229 m z.2) := by
  unfold rfl_takeStatement_229
  refine RP_bnd (u_rf_need 59 m) (fun y1 h1 => ?_)
  have h2 : UR F_rfl_takeStatement_229 A_rfl_takeStatement_229 m y1.2 := (UR_s h1 UR_0 rfl rfl)
  exact RP_some h2
def F_rfl_takeStatement_228 : List Nat := [7, 8, 9, 10, 11, 12]
def A_rfl_takeStatement_228 : List Nat := [104]
theorem u_rfl_takeStatement_228 (u1 : Int) (u2 : Int) (m : mR) : RP (rfl_takeStatement_228 u1 u2 m) (fun z : Int × mR => UR F_rfl_takeStatement_228 A_rfl_takeStatement_228 m z.2) := by
  unfold rfl_takeStatement_228
  exact RP_w (u_rfl_takeStatement_229 (mO m [] [(104, upI (m.2 104) u1 u2)])) (fun z hz => (UR_s hz (UR_m UR_0 rfl rfl (fun h => h)) rfl rfl))
def F_rfl_takeStatement_206 : List Nat := [7, 8, 9, 10, 11, 12]
def A_rfl_takeStatement_206 : List Nat := [104]
theorem u_rfl_takeStatement_206 (v1 : Int) (m : mR) : RP (rfl_takeStatement_206 v1 m) (fun z : Int × mR => UR F_rfl_takeStatement_206 A_rfl_takeStatement_206 m z.2) := by
  unfold rfl_takeStatement_206
  refine RP_ite (fun h1 => ?_) (fun h1 => ?_)
  · skip
    exact RP_w (u_rfl_takeStatement_229 m) (fun z hz => (UR_s hz UR_0 rfl rfl))
  · skip
    refine RP_bnd (u_rf_oldName 2 m) (fun y5 h2 => ?_)
    have h3 : UR F_rfl_takeStatement_206 A_rfl_takeStatement_206 m y5.2 := (UR_s h2 UR_0 rfl rfl)
    exact RP_w (u_rfl_takeStatement_228 v1 y5.1 y5.2) (fun z hz => (UR_s hz h3 rfl rfl))
def F_rfl_takeStatement_176 : List Nat := [7, 8, 9, 10, 11, 12, 28, 69, 70, 71, 72, 73, 74, 75]
def A_rfl_takeStatement_176 : List Nat := [65, 66, 67, 68, 76, 77, 78, 79, 80, 81, 82, 83, 84, 85, 86, 87, 88, 89, 90, 91, 92, 107, 108]
theorem u_rfl_takeStatement_176 (v1 : Int) (m : mR) : RP (rfl_takeStatement_176 v1 m) (fun z : Int × mR => UR F_rfl_takeStatement_176 A_rfl_takeStatement_176 m z.2) := by
  unfold rfl_takeStatement_176
  refine RP_ite (fun h1 => ?_) (fun h1 => ?_)
  · skip
    refine RP_bnd (u_rf_takeWorth v1 ((m.2 36) ((m.2 103) v1)) m) (fun y9 h2 => ?_)
    have h3 : UR F_rfl_takeStatement_176 A_rfl_takeStatement_176 m y9.2 := (UR_s h2 UR_0 rfl rfl)
    exact RP_w (u_rfl_takeStatement_229 y9.2) (fun z hz => (UR_s hz h3 rfl rfl))
  · skip
    exact RP_w (u_rfl_takeStatement_229 m) (fun z hz => (UR_s hz UR_0 rfl rfl))
def F_rfl_takeStatement_170 : List Nat := [7, 8, 9, 10, 11, 12, 28, 69, 70, 71, 72, 73, 74, 75]
def A_rfl_takeStatement_170 : List Nat := [65, 66, 67, 68, 76, 77, 78, 79, 80, 81, 82, 83, 84, 85, 86, 87, 88, 89, 90, 91, 92, 103, 105, 106, 107, 108]
theorem u_rfl_takeStatement_170 (v1 : Int) (u1 : Int) (u2 : Int) (m : mR) : RP (rfl_takeStatement_170 v1 u1 u2 m) (fun z : Int × mR => UR F_rfl_takeStatement_170 A_rfl_takeStatement_170 m z.2) := by
  unfold rfl_takeStatement_170
  refine RP_bnd (u_rf_takeIndex v1 (mO m [] [(103, upI (m.2 103) u1 u2)])) (fun y12 h1 => ?_)
  have h2 : UR F_rfl_takeStatement_170 A_rfl_takeStatement_170 m y12.2 := (UR_s h1 (UR_m UR_0 rfl rfl (fun h => h)) rfl rfl)
  exact RP_w (u_rfl_takeStatement_176 v1 y12.2) (fun z hz => (UR_s hz h2 rfl rfl))
def F_rfl_takeStatement_160 : List Nat := [7, 8, 9, 10, 11, 12, 28, 69, 70, 71, 72, 73, 74, 75]
def A_rfl_takeStatement_160 : List Nat := [65, 66, 67, 68, 76, 77, 78, 79, 80, 81, 82, 83, 84, 85, 86, 87, 88, 89, 90, 91, 92, 103, 105, 106, 107, 108]
theorem u_rfl_takeStatement_160 (v1 : Int) (m : mR) : RP (rfl_takeStatement_160 v1 m) (fun z : Int × mR => UR F_rfl_takeStatement_160 A_rfl_takeStatement_160 m z.2) := by
  unfold rfl_takeStatement_160
  refine RP_bnd (u_rf_oldName 4 m) (fun y15 h1 => ?_)
  have h2 : UR F_rfl_takeStatement_160 A_rfl_takeStatement_160 m y15.2 := (UR_s h1 UR_0 rfl rfl)
  exact RP_w (u_rfl_takeStatement_170 v1 v1 y15.1 y15.2) (fun z hz => (UR_s hz h2 rfl rfl))
def F_rfl_takeStatement_138 : List Nat := [7, 8, 9, 10, 11, 12, 28, 69, 70, 71, 72, 73, 74, 75]
def A_rfl_takeStatement_138 : List Nat := [65, 66, 67, 68, 76, 77, 78, 79, 80, 81, 82, 83, 84, 85, 86, 87, 88, 89, 90, 91, 92, 105, 106]
theorem u_rfl_takeStatement_138 (v1 : Int) (m : mR) : RP (rfl_takeStatement_138 v1 m) (fun z : Int × mR => UR F_rfl_takeStatement_138 A_rfl_takeStatement_138 m z.2) := by
  unfold rfl_takeStatement_138
  refine RP_bnd (u_rf_takeIndex v1 m) (fun y18 h1 => ?_)
  have h2 : UR F_rfl_takeStatement_138 A_rfl_takeStatement_138 m y18.2 := (UR_s h1 UR_0 rfl rfl)
  exact RP_w (u_rfl_takeStatement_229 y18.2) (fun z hz => (UR_s hz h2 rfl rfl))
def F_rfl_takeStatement_134 : List Nat := [7, 8, 9, 10, 11, 12, 28, 69, 70, 71, 72, 73, 74, 75]
def A_rfl_takeStatement_134 : List Nat := [65, 66, 67, 68, 76, 77, 78, 79, 80, 81, 82, 83, 84, 85, 86, 87, 88, 89, 90, 91, 92, 105, 106]
theorem u_rfl_takeStatement_134 (v1 : Int) (v2 : Int) (u1 : Int) (m : mR) : RP (rfl_takeStatement_134 v1 v2 u1 m) (fun z : Int × mR => UR F_rfl_takeStatement_134 A_rfl_takeStatement_134 m z.2) := by
  unfold rfl_takeStatement_134
  refine RP_bnd (u_rf_want u1 v2 m) (fun y21 h1 => ?_)
  have h2 : UR F_rfl_takeStatement_134 A_rfl_takeStatement_134 m y21.2 := (UR_s h1 UR_0 rfl rfl)
  exact RP_w (u_rfl_takeStatement_138 v1 y21.2) (fun z hz => (UR_s hz h2 rfl rfl))
def F_rfl_takeStatement_102 : List Nat := [7, 8, 9, 10, 11, 12, 28, 69, 70, 71, 72, 73, 74, 75]
def A_rfl_takeStatement_102 : List Nat := [65, 66, 67, 68, 76, 77, 78, 79, 80, 81, 82, 83, 84, 85, 86, 87, 88, 89, 90, 91, 92, 103, 105, 106]
theorem u_rfl_takeStatement_102 (v1 : Int) (v2 : Int) (u1 : Int) (u2 : Int) (m : mR) : RP (rfl_takeStatement_102 v1 v2 u1 u2 m) (fun z : Int × mR => UR F_rfl_takeStatement_102 A_rfl_takeStatement_102 m z.2) := by
  unfold rfl_takeStatement_102
  refine RP_ite (fun h1 => ?_) (fun h1 => ?_)
  · skip
    refine RP_ite (fun h2 => ?_) (fun h2 => ?_)
    · skip
      exact RP_w (u_rfl_takeStatement_134 v1 v2 1 (mO m [] [(103, upI (m.2 103) u1 u2)])) (fun z hz => (UR_s hz (UR_m UR_0 rfl rfl (fun h => h)) rfl rfl))
    · skip
      exact RP_w (u_rfl_takeStatement_134 v1 v2 0 (mO m [] [(103, upI (m.2 103) u1 u2)])) (fun z hz => (UR_s hz (UR_m UR_0 rfl rfl (fun h => h)) rfl rfl))
  · skip
    exact RP_w (u_rfl_takeStatement_138 v1 (mO m [] [(103, upI (m.2 103) u1 u2)])) (fun z hz => (UR_s hz (UR_m UR_0 rfl rfl (fun h => h)) rfl rfl))
def F_rfl_takeStatement_86 : List Nat := [7, 8, 9, 10, 11, 12, 28, 69, 70, 71, 72, 73, 74, 75]
def A_rfl_takeStatement_86 : List Nat := [65, 66, 67, 68, 76, 77, 78, 79, 80, 81, 82, 83, 84, 85, 86, 87, 88, 89, 90, 91, 92, 102, 103, 105, 106]
theorem u_rfl_takeStatement_86 (v1 : Int) (u1 : Int) (u2 : Int) (m : mR) : RP (rfl_takeStatement_86 v1 u1 u2 m) (fun z : Int × mR => UR F_rfl_takeStatement_86 A_rfl_takeStatement_86 m z.2) := by
  unfold rfl_takeStatement_86
  refine RP_bnd (u_rf_oldName 4 (mO m [] [(102, upI (m.2 102) u1 u2)])) (fun y26 h1 => ?_)
  have h2 : UR F_rfl_takeStatement_86 A_rfl_takeStatement_86 m y26.2 := (UR_s h1 (UR_m UR_0 rfl rfl (fun h => h)) rfl rfl)
  exact RP_w (u_rfl_takeStatement_102 v1 (m.1 8) v1 y26.1 y26.2) (fun z hz => (UR_s hz h2 rfl rfl))
def F_rfl_takeStatement_77 : List Nat := [7, 8, 9, 10, 11, 12, 28, 69, 70, 71, 72, 73, 74, 75, 100]
def A_rfl_takeStatement_77 : List Nat := [65, 66, 67, 68, 76, 77, 78, 79, 80, 81, 82, 83, 84, 85, 86, 87, 88, 89, 90, 91, 92, 102, 103, 105, 106]
theorem u_rfl_takeStatement_77 (v1 : Int) (m : mR) : RP (rfl_takeStatement_77 v1 m) (fun z : Int × mR => UR F_rfl_takeStatement_77 A_rfl_takeStatement_77 m z.2) := by
  unfold rfl_takeStatement_77
  refine RP_bnd (u_rf_takePlace m) (fun y29 h1 => ?_)
  have h2 : UR F_rfl_takeStatement_77 A_rfl_takeStatement_77 m y29.2 := (UR_s h1 UR_0 rfl rfl)
  exact RP_w (u_rfl_takeStatement_86 v1 v1 y29.1 y29.2) (fun z hz => (UR_s hz h2 rfl rfl))
def F_rfl_takeStatement_54 : List Nat := [7, 8, 9, 10, 11, 12, 28, 69, 70, 71, 72, 73, 74, 75]
def A_rfl_takeStatement_54 : List Nat := [65, 66, 67, 68, 76, 77, 78, 79, 80, 81, 82, 83, 84, 85, 86, 87, 88, 89, 90, 91, 92, 107, 108]
theorem u_rfl_takeStatement_54 (v1 : Int) (v2 : Int) (m : mR) : RP (rfl_takeStatement_54 v1 v2 m) (fun z : Int × mR => UR F_rfl_takeStatement_54 A_rfl_takeStatement_54 m z.2) := by
  unfold rfl_takeStatement_54
  refine RP_bnd (u_rf_takeWorth v1 v2 m) (fun y32 h1 => ?_)
  have h2 : UR F_rfl_takeStatement_54 A_rfl_takeStatement_54 m y32.2 := (UR_s h1 UR_0 rfl rfl)
  exact RP_w (u_rfl_takeStatement_229 y32.2) (fun z hz => (UR_s hz h2 rfl rfl))
def F_rfl_takeStatement_42 : List Nat := [7, 8, 9, 10, 11, 12, 28, 69, 70, 71, 72, 73, 74, 75]
def A_rfl_takeStatement_42 : List Nat := [65, 66, 67, 68, 76, 77, 78, 79, 80, 81, 82, 83, 84, 85, 86, 87, 88, 89, 90, 91, 92, 102, 107, 108]
theorem u_rfl_takeStatement_42 (v1 : Int) (u1 : Int) (u2 : Int) (m : mR) : RP (rfl_takeStatement_42 v1 u1 u2 m) (fun z : Int × mR => UR F_rfl_takeStatement_42 A_rfl_takeStatement_42 m z.2) := by
  unfold rfl_takeStatement_42
  refine RP_bnd (u_rf_need 61 (mO m [] [(102, upI (m.2 102) u1 u2)])) (fun y35 h1 => ?_)
  have h2 : UR F_rfl_takeStatement_42 A_rfl_takeStatement_42 m y35.2 := (UR_s h1 (UR_m UR_0 rfl rfl (fun h => h)) rfl rfl)
  exact RP_w (u_rfl_takeStatement_54 v1 (m.1 100) y35.2) (fun z hz => (UR_s hz h2 rfl rfl))
theorem u_rf_takeStatement (m : mR) : RP (rf_takeStatement m) (fun z : Int × mR => UR rF_takeStatement rA_takeStatement m z.2) := by
  unfold rf_takeStatement
  refine RP_ite (fun h1 => ?_) (fun h1 => ?_)
  · skip
    refine RP_bnd (u_rf_takePlace (mO m [(99, cut ((m.1 99) + 1))] [(101, upI (m.2 101) (m.1 99) (m.1 7))])) (fun y50 h2 => ?_)
    have h3 : UR rF_takeStatement rA_takeStatement m y50.2 := (UR_s h2 (UR_m UR_0 rfl rfl (fun h => h)) rfl rfl)
    exact RP_w (u_rfl_takeStatement_42 (m.1 99) (m.1 99) y50.1 y50.2) (fun z hz => (UR_s hz h3 rfl rfl))
  · skip
    refine RP_ite (fun h4 => ?_) (fun h4 => ?_)
    · skip
      refine RP_bnd (u_rf_next (mO m [(99, cut ((m.1 99) + 1))] [(101, upI (m.2 101) (m.1 99) (m.1 7))])) (fun y47 h5 => ?_)
      have h6 : UR rF_takeStatement rA_takeStatement m y47.2 := (UR_s h5 (UR_m UR_0 rfl rfl (fun h => h)) rfl rfl)
      exact RP_w (u_rfl_takeStatement_77 (m.1 99) y47.2) (fun z hz => (UR_s hz h6 rfl rfl))
    · skip
      refine RP_ite (fun h7 => ?_) (fun h7 => ?_)
      · skip
        refine RP_bnd (u_rf_next (mO m [(99, cut ((m.1 99) + 1))] [(101, upI (m.2 101) (m.1 99) (m.1 7))])) (fun y44 h8 => ?_)
        have h9 : UR rF_takeStatement rA_takeStatement m y44.2 := (UR_s h8 (UR_m UR_0 rfl rfl (fun h => h)) rfl rfl)
        exact RP_w (u_rfl_takeStatement_160 (m.1 99) y44.2) (fun z hz => (UR_s hz h9 rfl rfl))
      · skip
        refine RP_bnd (u_rf_next (mO m [(99, cut ((m.1 99) + 1))] [(101, upI (m.2 101) (m.1 99) (m.1 7))])) (fun y41 h10 => ?_)
        have h11 : UR rF_takeStatement rA_takeStatement m y41.2 := (UR_s h10 (UR_m UR_0 rfl rfl (fun h => h)) rfl rfl)
        exact RP_w (u_rfl_takeStatement_206 (m.1 99) y41.2) (fun z hz => (UR_s hz h11 rfl rfl))
def rF_takeAction : List Nat := [7, 8, 9, 10, 11, 12, 13, 25, 28, 64, 69, 70, 71, 72, 73, 74, 75, 99, 100]
def rA_takeAction : List Nat := [14, 15, 16, 17, 46, 47, 48, 49, 50, 65, 66, 67, 68, 76, 77, 78, 79, 80, 81, 82, 83, 84, 85, 86, 87, 88, 89, 90, 91, 92, 101, 102, 103, 104, 105, 106, 107, 108, 109]
def F_rfl_takeAction_211 : List Nat := [7, 8, 9, 10, 11, 12, 64]
def A_rfl_takeAction_211 : List Nat := []
theorem u_rfl_takeAction_211 (m : mR) : RP (rfl_takeAction_211 m) (fun z : Int × mR => UR F_rfl_takeAction_211 A_rfl_takeAction_211 m z.2) := by
  unfold rfl_takeAction_211
  refine RP_bnd (u_rf_need 125 (mO m [(64, (-1))] [])) (fun y3 h1 => ?_)
  have h2 : UR F_rfl_takeAction_211 A_rfl_takeAction_211 m y3.2 := (UR_s h1 (UR_m UR_0 rfl rfl (fun h => h)) rfl rfl)
  exact RP_some h2
def F_rfl_takeAction_198 : List Nat := []
def A_rfl_takeAction_198 : List Nat := [50]
theorem u_rfl_takeAction_198 (v1 : Int) (m : mR) : RP (rfl_takeAction_198 v1 m) (sel (fun z : (mR) => UR F_rfl_takeAction_198 A_rfl_takeAction_198 m z) (fun z : mR => UR F_rfl_takeAction_198 A_rfl_takeAction_198 m z)) := by
  unfold rfl_takeAction_198
  exact RP_some (UR_m UR_0 rfl rfl (fun h => h))
def F_rfl_takeAction_187 : List Nat := [7, 8, 9, 10, 11, 12, 28, 69, 70, 71, 72, 73, 74, 75, 99, 100]
def A_rfl_takeAction_187 : List Nat := [50, 65, 66, 67, 68, 76, 77, 78, 79, 80, 81, 82, 83, 84, 85, 86, 87, 88, 89, 90, 91, 92, 101, 102, 103, 104, 105, 106, 107, 108]
theorem u_rfl_takeAction_187 (v1 : Int) (m : mR) : RP (rfl_takeAction_187 v1 m) (sel (fun z : (mR) => UR F_rfl_takeAction_187 A_rfl_takeAction_187 m z) (fun z : mR => UR F_rfl_takeAction_187 A_rfl_takeAction_187 m z)) := by
  unfold rfl_takeAction_187
  refine RP_ite (fun h1 => ?_) (fun h1 => ?_)
  · skip
    refine RP_bnd (u_rf_takeStatement m) (fun y7 h2 => ?_)
    have h3 : UR F_rfl_takeAction_187 A_rfl_takeAction_187 m y7.2 := (UR_s h2 UR_0 rfl rfl)
    exact RP_w (u_rfl_takeAction_198 v1 y7.2) (sl_w (fun z hz => (UR_s hz h3 rfl rfl)) (fun z hz => (UR_s hz h3 rfl rfl)))
  · skip
    exact RP_w (u_rfl_takeAction_198 v1 m) (sl_w (fun z hz => (UR_s hz UR_0 rfl rfl)) (fun z hz => (UR_s hz UR_0 rfl rfl)))
def F_rfb_takeAction_153 : List Nat := [7, 8, 9, 10, 11, 12, 28, 69, 70, 71, 72, 73, 74, 75, 99, 100]
def A_rfb_takeAction_153 : List Nat := [50, 65, 66, 67, 68, 76, 77, 78, 79, 80, 81, 82, 83, 84, 85, 86, 87, 88, 89, 90, 91, 92, 101, 102, 103, 104, 105, 106, 107, 108]
theorem u_rfb_takeAction_153 (v1 : Int) (s : mR) : RP (rfb_takeAction_153 v1 s) (sel (fun z : (mR) => UR F_rfb_takeAction_153 A_rfb_takeAction_153 s z) (fun z : mR => UR F_rfb_takeAction_153 A_rfb_takeAction_153 s z)) := by
  unfold rfb_takeAction_153
  refine RP_ite (fun h1 => ?_) (fun h1 => ?_)
  · skip
    refine RP_bndT (fun y12 => ?_)
    refine RP_ite (fun h2 => ?_) (fun h2 => ?_)
    · skip
      exact RP_some UR_0
    · skip
      refine RP_ite (fun h3 => ?_) (fun h3 => ?_)
      · skip
        refine RP_bnd (u_rf_wrong 4 (s.1 8) s) (fun y16 h4 => ?_)
        have h5 : UR F_rfb_takeAction_153 A_rfb_takeAction_153 s y16.2 := (UR_s h4 UR_0 rfl rfl)
        exact RP_w (u_rfl_takeAction_187 v1 y16.2) (sl_w (fun z hz => (UR_s hz h5 rfl rfl)) (fun z hz => (UR_s hz h5 rfl rfl)))
      · skip
        exact RP_w (u_rfl_takeAction_187 v1 s) (sl_w (fun z hz => (UR_s hz UR_0 rfl rfl)) (fun z hz => (UR_s hz UR_0 rfl rfl)))
  · skip
    exact RP_some UR_0
theorem uw_rfb_takeAction_153 (v1 : Int) (s : mR) : RP (whl (rfb_takeAction_153 v1) s) (fun z : mR => UR F_rfb_takeAction_153 A_rfb_takeAction_153 s z) := RP_whl (I := fun q : mR => UR F_rfb_takeAction_153 A_rfb_takeAction_153 s q) (fun q hq => RP_w (u_rfb_takeAction_153 v1 q) (sl_w (fun z hz => (UR_s hz hq rfl rfl)) (fun z hz => (UR_s hz hq rfl rfl)))) UR_0
def F_rfl_takeAction_148 : List Nat := [7, 8, 9, 10, 11, 12, 28, 64, 69, 70, 71, 72, 73, 74, 75, 99, 100]
def A_rfl_takeAction_148 : List Nat := [50, 65, 66, 67, 68, 76, 77, 78, 79, 80, 81, 82, 83, 84, 85, 86, 87, 88, 89, 90, 91, 92, 101, 102, 103, 104, 105, 106, 107, 108]
theorem u_rfl_takeAction_148 (v1 : Int) (m : mR) : RP (rfl_takeAction_148 v1 m) (fun z : Int × mR => UR F_rfl_takeAction_148 A_rfl_takeAction_148 m z.2) := by
  unfold rfl_takeAction_148
  refine RP_bnd (uw_rfb_takeAction_153 v1 (mO m [(64, v1)] [])) (fun e19 h1 => ?_)
  have h2 : UR F_rfl_takeAction_148 A_rfl_takeAction_148 m e19 := (UR_s h1 (UR_m UR_0 rfl rfl (fun h => h)) rfl rfl)
  exact RP_w (u_rfl_takeAction_211 e19) (fun z hz => (UR_s hz h2 rfl rfl))
def F_rfl_takeAction_142 : List Nat := [7, 8, 9, 10, 11, 12, 28, 64, 69, 70, 71, 72, 73, 74, 75, 99, 100]
def A_rfl_takeAction_142 : List Nat := [50, 65, 66, 67, 68, 76, 77, 78, 79, 80, 81, 82, 83, 84, 85, 86, 87, 88, 89, 90, 91, 92, 101, 102, 103, 104, 105, 106, 107, 108]
theorem u_rfl_takeAction_142 (v1 : Int) (m : mR) : RP (rfl_takeAction_142 v1 m) (fun z : Int × mR => UR F_rfl_takeAction_142 A_rfl_takeAction_142 m z.2) := by
  unfold rfl_takeAction_142
  refine RP_bnd (u_rf_need 123 m) (fun y22 h1 => ?_)
  have h2 : UR F_rfl_takeAction_142 A_rfl_takeAction_142 m y22.2 := (UR_s h1 UR_0 rfl rfl)
  exact RP_w (u_rfl_takeAction_148 v1 y22.2) (fun z hz => (UR_s hz h2 rfl rfl))
def F_rfl_takeAction_136 : List Nat := [7, 8, 9, 10, 11, 12, 28, 64, 69, 70, 71, 72, 73, 74, 75, 99, 100]
def A_rfl_takeAction_136 : List Nat := [50, 65, 66, 67, 68, 76, 77, 78, 79, 80, 81, 82, 83, 84, 85, 86, 87, 88, 89, 90, 91, 92, 101, 102, 103, 104, 105, 106, 107, 108]
theorem u_rfl_takeAction_136 (v1 : Int) (m : mR) : RP (rfl_takeAction_136 v1 m) (fun z : Int × mR => UR F_rfl_takeAction_136 A_rfl_takeAction_136 m z.2) := by
  unfold rfl_takeAction_136
  refine RP_bnd (u_rf_need 41 m) (fun y25 h1 => ?_)
  have h2 : UR F_rfl_takeAction_136 A_rfl_takeAction_136 m y25.2 := (UR_s h1 UR_0 rfl rfl)
  exact RP_w (u_rfl_takeAction_142 v1 y25.2) (fun z hz => (UR_s hz h2 rfl rfl))
def F_rfl_takeAction_124 : List Nat := [7, 8, 9, 10, 11, 12]
def A_rfl_takeAction_124 : List Nat := []
theorem u_rfl_takeAction_124 (v1 : Int) (u0 : Int) (m : mR) : RP (rfl_takeAction_124 v1 u0 m) (sel (fun z : (Int × mR) => UR F_rfl_takeAction_124 A_rfl_takeAction_124 m z.2) (fun z : mR => UR F_rfl_takeAction_124 A_rfl_takeAction_124 m z)) := by
  unfold rfl_takeAction_124
  refine RP_ite (fun h1 => ?_) (fun h1 => ?_)
  · skip
    exact RP_some UR_0
  · skip
    refine RP_bnd (u_rf_next m) (fun y29 h2 => ?_)
    have h3 : UR F_rfl_takeAction_124 A_rfl_takeAction_124 m y29.2 := (UR_s h2 UR_0 rfl rfl)
    exact RP_some h3
def F_rfl_takeAction_123 : List Nat := [7, 8, 9, 10, 11, 12]
def A_rfl_takeAction_123 : List Nat := []
theorem u_rfl_takeAction_123 (v1 : Int) (m : mR) : RP (rfl_takeAction_123 v1 m) (sel (fun z : (Int × mR) => UR F_rfl_takeAction_123 A_rfl_takeAction_123 m z.2) (fun z : mR => UR F_rfl_takeAction_123 A_rfl_takeAction_123 m z)) := by
  unfold rfl_takeAction_123
  exact RP_w (u_rfl_takeAction_124 v1 0 m) (sl_w (fun z hz => (UR_s hz UR_0 rfl rfl)) (fun z hz => (UR_s hz UR_0 rfl rfl)))
def F_rfl_takeAction_103 : List Nat := [7, 8, 9, 10, 11, 12]
def A_rfl_takeAction_103 : List Nat := []
theorem u_rfl_takeAction_103 (v1 : Int) (m : mR) : RP (rfl_takeAction_103 v1 m) (sel (fun z : (Int × mR) => UR F_rfl_takeAction_103 A_rfl_takeAction_103 m z.2) (fun z : mR => UR F_rfl_takeAction_103 A_rfl_takeAction_103 m z)) := by
  unfold rfl_takeAction_103
  refine RP_ite (fun h1 => ?_) (fun h1 => ?_)
  · skip
    refine RP_ite (fun h2 => ?_) (fun h2 => ?_)
    · skip
      exact RP_w (u_rfl_takeAction_124 v1 1 m) (sl_w (fun z hz => (UR_s hz UR_0 rfl rfl)) (fun z hz => (UR_s hz UR_0 rfl rfl)))
    · skip
      exact RP_w (u_rfl_takeAction_123 v1 m) (sl_w (fun z hz => (UR_s hz UR_0 rfl rfl)) (fun z hz => (UR_s hz UR_0 rfl rfl)))
  · skip
    exact RP_w (u_rfl_takeAction_123 v1 m) (sl_w (fun z hz => (UR_s hz UR_0 rfl rfl)) (fun z hz => (UR_s hz UR_0 rfl rfl)))
def F_rfb_takeAction_87 : List Nat := [7, 8, 9, 10, 11, 12]
def A_rfb_takeAction_87 : List Nat := [46, 47, 48, 49]
theorem u_rfb_takeAction_87 (v1 : Int) (s : Int × mR) : RP (rfb_takeAction_87 v1 s) (sel (fun z : (Int × mR) => UR F_rfb_takeAction_87 A_rfb_takeAction_87 s.2 z.2) (fun z : mR => UR F_rfb_takeAction_87 A_rfb_takeAction_87 s.2 z)) := by
  unfold rfb_takeAction_87
  refine RP_ite (fun h1 => ?_) (fun h1 => ?_)
  · skip
    exact RP_some UR_0
  · skip
    refine RP_ite (fun h2 => ?_) (fun h2 => ?_)
    · skip
      refine RP_bnd (u_rf_takeParameter v1 s.2) (fun y37 h3 => ?_)
      have h4 : UR F_rfb_takeAction_87 A_rfb_takeAction_87 s.2 y37.2 := (UR_s h3 UR_0 rfl rfl)
      exact RP_w (u_rfl_takeAction_103 v1 y37.2) (sl_w (fun z hz => (UR_s hz h4 rfl rfl)) (fun z hz => (UR_s hz h4 rfl rfl)))
    · skip
      exact RP_some UR_0
theorem uw_rfb_takeAction_87 (v1 : Int) (s : Int × mR) : RP (whl (rfb_takeAction_87 v1) s) (fun z : mR => UR F_rfb_takeAction_87 A_rfb_takeAction_87 s.2 z) := RP_whl (I := fun q : Int × mR => UR F_rfb_takeAction_87 A_rfb_takeAction_87 s.2 q.2) (fun q hq => RP_w (u_rfb_takeAction_87 v1 q) (sl_w (fun z hz => (UR_s hz hq rfl rfl)) (fun z hz => (UR_s hz hq rfl rfl)))) UR_0
def F_rfl_takeAction_86 : List Nat := [7, 8, 9, 10, 11, 12, 28, 64, 69, 70, 71, 72, 73, 74, 75, 99, 100]
def A_rfl_takeAction_86 : List Nat := [46, 47, 48, 49, 50, 65, 66, 67, 68, 76, 77, 78, 79, 80, 81, 82, 83, 84, 85, 86, 87, 88, 89, 90, 91, 92, 101, 102, 103, 104, 105, 106, 107, 108]
theorem u_rfl_takeAction_86 (v1 : Int) (u0 : Int) (m : mR) : RP (rfl_takeAction_86 v1 u0 m) (fun z : Int × mR => UR F_rfl_takeAction_86 A_rfl_takeAction_86 m z.2) := by
  unfold rfl_takeAction_86
  refine RP_bnd (uw_rfb_takeAction_87 v1 (u0, m)) (fun e40 h1 => ?_)
  have h2 : UR F_rfl_takeAction_86 A_rfl_takeAction_86 m e40 := (UR_s h1 UR_0 rfl rfl)
  exact RP_w (u_rfl_takeAction_136 v1 e40) (fun z hz => (UR_s hz h2 rfl rfl))
def F_rfl_takeAction_85 : List Nat := [7, 8, 9, 10, 11, 12, 28, 64, 69, 70, 71, 72, 73, 74, 75, 99, 100]
def A_rfl_takeAction_85 : List Nat := [46, 47, 48, 49, 50, 65, 66, 67, 68, 76, 77, 78, 79, 80, 81, 82, 83, 84, 85, 86, 87, 88, 89, 90, 91, 92, 101, 102, 103, 104, 105, 106, 107, 108]
theorem u_rfl_takeAction_85 (v1 : Int) (m : mR) : RP (rfl_takeAction_85 v1 m) (fun z : Int × mR => UR F_rfl_takeAction_85 A_rfl_takeAction_85 m z.2) := by
  unfold rfl_takeAction_85
  exact RP_w (u_rfl_takeAction_86 v1 0 m) (fun z hz => (UR_s hz UR_0 rfl rfl))
def F_rfl_takeAction_65 : List Nat := [7, 8, 9, 10, 11, 12, 28, 64, 69, 70, 71, 72, 73, 74, 75, 99, 100]
def A_rfl_takeAction_65 : List Nat := [46, 47, 48, 49, 50, 65, 66, 67, 68, 76, 77, 78, 79, 80, 81, 82, 83, 84, 85, 86, 87, 88, 89, 90, 91, 92, 101, 102, 103, 104, 105, 106, 107, 108]
theorem u_rfl_takeAction_65 (v1 : Int) (m : mR) : RP (rfl_takeAction_65 v1 m) (fun z : Int × mR => UR F_rfl_takeAction_65 A_rfl_takeAction_65 m z.2) := by
  unfold rfl_takeAction_65
  refine RP_ite (fun h1 => ?_) (fun h1 => ?_)
  · skip
    refine RP_ite (fun h2 => ?_) (fun h2 => ?_)
    · skip
      exact RP_w (u_rfl_takeAction_85 v1 m) (fun z hz => (UR_s hz UR_0 rfl rfl))
    · skip
      exact RP_w (u_rfl_takeAction_86 v1 1 m) (fun z hz => (UR_s hz UR_0 rfl rfl))
  · skip
    exact RP_w (u_rfl_takeAction_85 v1 m) (fun z hz => (UR_s hz UR_0 rfl rfl))
def F_rfl_takeAction_16 : List Nat := [7, 8, 9, 10, 11, 12, 25, 28, 64, 69, 70, 71, 72, 73, 74, 75, 99, 100]
def A_rfl_takeAction_16 : List Nat := [46, 47, 48, 49, 50, 65, 66, 67, 68, 76, 77, 78, 79, 80, 81, 82, 83, 84, 85, 86, 87, 88, 89, 90, 91, 92, 101, 102, 103, 104, 105, 106, 107, 108, 109]
theorem u_rfl_takeAction_16 (u0 : Int) (m : mR) : RP (rfl_takeAction_16 u0 m) (fun z : Int × mR => UR F_rfl_takeAction_16 A_rfl_takeAction_16 m z.2) := by
  unfold rfl_takeAction_16
  refine RP_ite (fun h1 => ?_) (fun h1 => ?_)
  · skip
    exact RP_some UR_0
  · skip
    refine RP_bnd (u_rf_need 40 (mO m [(25, cut ((m.1 25) + 1))] [(46, upI (m.2 46) (m.1 25) 0), (50, upI (m.2 50) (m.1 25) 0), (109, upI (m.2 109) (m.1 25) (m.1 99))])) (fun y46 h2 => ?_)
    have h3 : UR F_rfl_takeAction_16 A_rfl_takeAction_16 m y46.2 := (UR_s h2 (UR_m UR_0 rfl rfl (fun h => h)) rfl rfl)
    exact RP_w (u_rfl_takeAction_65 (m.1 25) y46.2) (fun z hz => (UR_s hz h3 rfl rfl))
def F_rfl_takeAction_4 : List Nat := [7, 8, 9, 10, 11, 12, 13, 25, 28, 64, 69, 70, 71, 72, 73, 74, 75, 99, 100]
def A_rfl_takeAction_4 : List Nat := [14, 15, 16, 17, 46, 47, 48, 49, 50, 65, 66, 67, 68, 76, 77, 78, 79, 80, 81, 82, 83, 84, 85, 86, 87, 88, 89, 90, 91, 92, 101, 102, 103, 104, 105, 106, 107, 108, 109]
theorem u_rfl_takeAction_4 (m : mR) : RP (rfl_takeAction_4 m) (fun z : Int × mR => UR F_rfl_takeAction_4 A_rfl_takeAction_4 m z.2) := by
  unfold rfl_takeAction_4
  refine RP_bnd (u_rf_newName 6 (m.1 25) 16 m) (fun y49 h1 => ?_)
  have h2 : UR F_rfl_takeAction_4 A_rfl_takeAction_4 m y49.2 := (UR_s h1 UR_0 rfl rfl)
  exact RP_w (u_rfl_takeAction_16 y49.1 y49.2) (fun z hz => (UR_s hz h2 rfl rfl))
theorem u_rf_takeAction (m : mR) : RP (rf_takeAction m) (fun z : Int × mR => UR rF_takeAction rA_takeAction m z.2) := by
  unfold rf_takeAction
  refine RP_bnd (u_rf_next m) (fun y52 h1 => ?_)
  have h2 : UR rF_takeAction rA_takeAction m y52.2 := (UR_s h1 UR_0 rfl rfl)
  exact RP_w (u_rfl_takeAction_4 y52.2) (fun z hz => (UR_s hz h2 rfl rfl))
def rF_takeList : List Nat := [7, 8, 9, 10, 11, 12]
def rA_takeList : List Nat := [53, 114, 116]
def F_rfl_takeList_183 : List Nat := [7, 8, 9, 10, 11, 12]
def A_rfl_takeList_183 : List Nat := []
theorem u_rfl_takeList_183 (m : mR) : RP (rfl_takeList_183 m) (fun z : Int × mR => UR F_rfl_takeList_183 A_rfl_takeList_183 m z.2) := by
  unfold rfl_takeList_183
  refine RP_bnd (u_rf_need 59 m) (fun y4 h1 => ?_)
  have h2 : UR F_rfl_takeList_183 A_rfl_takeList_183 m y4.2 := (UR_s h1 UR_0 rfl rfl)
  exact RP_some h2
def F_rfl_takeList_180 : List Nat := []
def A_rfl_takeList_180 : List Nat := []
theorem u_rfl_takeList_180 (v1 : Int) (v2 : Int) (m : mR) : RP (rfl_takeList_180 v1 v2 m) (sel (fun z : (Int × mR) => UR F_rfl_takeList_180 A_rfl_takeList_180 m z.2) (sel (fun z : (mR) => UR F_rfl_takeList_180 A_rfl_takeList_180 m z) (fun z : mR => UR F_rfl_takeList_180 A_rfl_takeList_180 m z))) := by
  unfold rfl_takeList_180
  exact RP_some UR_0
def F_rfl_takeList_171 : List Nat := [7, 8, 9, 10, 11, 12]
def A_rfl_takeList_171 : List Nat := []
theorem u_rfl_takeList_171 (v1 : Int) (u0 : Int) (m : mR) : RP (rfl_takeList_171 v1 u0 m) (sel (fun z : (Int × mR) => UR F_rfl_takeList_171 A_rfl_takeList_171 m z.2) (sel (fun z : (mR) => UR F_rfl_takeList_171 A_rfl_takeList_171 m z) (fun z : mR => UR F_rfl_takeList_171 A_rfl_takeList_171 m z))) := by
  unfold rfl_takeList_171
  refine RP_ite (fun h1 => ?_) (fun h1 => ?_)
  · skip
    exact RP_w (u_rfl_takeList_180 v1 u0 m) (sl_w (fun z hz => (UR_s hz UR_0 rfl rfl)) (sl_w (fun z hz => (UR_s hz UR_0 rfl rfl)) (fun z hz => (UR_s hz UR_0 rfl rfl))))
  · skip
    refine RP_bnd (u_rf_next m) (fun y8 h2 => ?_)
    have h3 : UR F_rfl_takeList_171 A_rfl_takeList_171 m y8.2 := (UR_s h2 UR_0 rfl rfl)
    exact RP_w (u_rfl_takeList_180 v1 u0 y8.2) (sl_w (fun z hz => (UR_s hz h3 rfl rfl)) (sl_w (fun z hz => (UR_s hz h3 rfl rfl)) (fun z hz => (UR_s hz h3 rfl rfl))))
def F_rfl_takeList_170 : List Nat := [7, 8, 9, 10, 11, 12]
def A_rfl_takeList_170 : List Nat := []
theorem u_rfl_takeList_170 (v1 : Int) (m : mR) : RP (rfl_takeList_170 v1 m) (sel (fun z : (Int × mR) => UR F_rfl_takeList_170 A_rfl_takeList_170 m z.2) (sel (fun z : (mR) => UR F_rfl_takeList_170 A_rfl_takeList_170 m z) (fun z : mR => UR F_rfl_takeList_170 A_rfl_takeList_170 m z))) := by
  unfold rfl_takeList_170
  exact RP_w (u_rfl_takeList_171 v1 0 m) (sl_w (fun z hz => (UR_s hz UR_0 rfl rfl)) (sl_w (fun z hz => (UR_s hz UR_0 rfl rfl)) (fun z hz => (UR_s hz UR_0 rfl rfl))))
def F_rfl_takeList_106 : List Nat := [7, 8, 9, 10, 11, 12]
def A_rfl_takeList_106 : List Nat := [53, 114, 116]
theorem u_rfl_takeList_106 (v1 : Int) (v4 : Int) (m : mR) : RP (rfl_takeList_106 v1 v4 m) (sel (fun z : (Int × mR) => UR F_rfl_takeList_106 A_rfl_takeList_106 m z.2) (sel (fun z : (mR) => UR F_rfl_takeList_106 A_rfl_takeList_106 m z) (fun z : mR => UR F_rfl_takeList_106 A_rfl_takeList_106 m z))) := by
  unfold rfl_takeList_106
  refine RP_ite (fun h1 => ?_) (fun h1 => ?_)
  · skip
    refine RP_ite (fun h2 => ?_) (fun h2 => ?_)
    · skip
      refine RP_ite (fun h3 => ?_) (fun h3 => ?_)
      · skip
        exact RP_w (u_rfl_takeList_171 v1 1 (mO m [] [(53, upI (m.2 53) v1 (cut (((m.2 53) v1) + 1))), (114, upI (m.2 114) (cut ((cut (8 * v1)) + ((m.2 53) v1))) v4), (116, upI (m.2 116) v4 (nar1 1))])) (sl_w (fun z hz => (UR_s hz (UR_m UR_0 rfl rfl (fun h => h)) rfl rfl)) (sl_w (fun z hz => (UR_s hz (UR_m UR_0 rfl rfl (fun h => h)) rfl rfl)) (fun z hz => (UR_s hz (UR_m UR_0 rfl rfl (fun h => h)) rfl rfl))))
      · skip
        exact RP_w (u_rfl_takeList_170 v1 (mO m [] [(53, upI (m.2 53) v1 (cut (((m.2 53) v1) + 1))), (114, upI (m.2 114) (cut ((cut (8 * v1)) + ((m.2 53) v1))) v4), (116, upI (m.2 116) v4 (nar1 1))])) (sl_w (fun z hz => (UR_s hz (UR_m UR_0 rfl rfl (fun h => h)) rfl rfl)) (sl_w (fun z hz => (UR_s hz (UR_m UR_0 rfl rfl (fun h => h)) rfl rfl)) (fun z hz => (UR_s hz (UR_m UR_0 rfl rfl (fun h => h)) rfl rfl))))
    · skip
      exact RP_w (u_rfl_takeList_170 v1 (mO m [] [(53, upI (m.2 53) v1 (cut (((m.2 53) v1) + 1))), (114, upI (m.2 114) (cut ((cut (8 * v1)) + ((m.2 53) v1))) v4), (116, upI (m.2 116) v4 (nar1 1))])) (sl_w (fun z hz => (UR_s hz (UR_m UR_0 rfl rfl (fun h => h)) rfl rfl)) (sl_w (fun z hz => (UR_s hz (UR_m UR_0 rfl rfl (fun h => h)) rfl rfl)) (fun z hz => (UR_s hz (UR_m UR_0 rfl rfl (fun h => h)) rfl rfl))))
  · skip
    exact RP_some UR_0
def F_rfl_takeList_80 : List Nat := [7, 8, 9, 10, 11, 12]
def A_rfl_takeList_80 : List Nat := [53, 114, 116]
theorem u_rfl_takeList_80 (v1 : Int) (v3 : Int) (u0 : Int) (m : mR) : RP (rfl_takeList_80 v1 v3 u0 m) (sel (fun z : (Int × mR) => UR F_rfl_takeList_80 A_rfl_takeList_80 m z.2) (sel (fun z : (mR) => UR F_rfl_takeList_80 A_rfl_takeList_80 m z) (fun z : mR => UR F_rfl_takeList_80 A_rfl_takeList_80 m z))) := by
  unfold rfl_takeList_80
  refine RP_ite (fun h1 => ?_) (fun h1 => ?_)
  · skip
    refine RP_ite (fun h2 => ?_) (fun h2 => ?_)
    · skip
      exact RP_w (u_rfl_takeList_106 v1 u0 m) (sl_w (fun z hz => (UR_s hz UR_0 rfl rfl)) (sl_w (fun z hz => (UR_s hz UR_0 rfl rfl)) (fun z hz => (UR_s hz UR_0 rfl rfl))))
    · skip
      refine RP_bnd (u_rf_wrong 8 v3 m) (fun y16 h3 => ?_)
      have h4 : UR F_rfl_takeList_80 A_rfl_takeList_80 m y16.2 := (UR_s h3 UR_0 rfl rfl)
      exact RP_w (u_rfl_takeList_106 v1 u0 y16.2) (sl_w (fun z hz => (UR_s hz h4 rfl rfl)) (sl_w (fun z hz => (UR_s hz h4 rfl rfl)) (fun z hz => (UR_s hz h4 rfl rfl))))
  · skip
    exact RP_w (u_rfl_takeList_106 v1 u0 m) (sl_w (fun z hz => (UR_s hz UR_0 rfl rfl)) (sl_w (fun z hz => (UR_s hz UR_0 rfl rfl)) (fun z hz => (UR_s hz UR_0 rfl rfl))))
def F_rfl_takeList_69 : List Nat := [7, 8, 9, 10, 11, 12]
def A_rfl_takeList_69 : List Nat := [53, 114, 116]
theorem u_rfl_takeList_69 (v1 : Int) (m : mR) : RP (rfl_takeList_69 v1 m) (sel (fun z : (Int × mR) => UR F_rfl_takeList_69 A_rfl_takeList_69 m z.2) (sel (fun z : (mR) => UR F_rfl_takeList_69 A_rfl_takeList_69 m z) (fun z : mR => UR F_rfl_takeList_69 A_rfl_takeList_69 m z))) := by
  unfold rfl_takeList_69
  refine RP_bnd (u_rf_oldName 6 m) (fun y19 h1 => ?_)
  have h2 : UR F_rfl_takeList_69 A_rfl_takeList_69 m y19.2 := (UR_s h1 UR_0 rfl rfl)
  exact RP_w (u_rfl_takeList_80 v1 (m.1 8) y19.1 y19.2) (sl_w (fun z hz => (UR_s hz h2 rfl rfl)) (sl_w (fun z hz => (UR_s hz h2 rfl rfl)) (fun z hz => (UR_s hz h2 rfl rfl))))
def F_rfb_takeList_30 : List Nat := [7, 8, 9, 10, 11, 12]
def A_rfb_takeList_30 : List Nat := [53, 114, 116]
theorem u_rfb_takeList_30 (v1 : Int) (s : Int × mR) : RP (rfb_takeList_30 v1 s) (sel (fun z : (Int × mR) => UR F_rfb_takeList_30 A_rfb_takeList_30 s.2 z.2) (sel (fun z : (mR) => UR F_rfb_takeList_30 A_rfb_takeList_30 s.2 z) (fun z : mR => UR F_rfb_takeList_30 A_rfb_takeList_30 s.2 z))) := by
  unfold rfb_takeList_30
  refine RP_ite (fun h1 => ?_) (fun h1 => ?_)
  · skip
    exact RP_some UR_0
  · skip
    refine RP_ite (fun h2 => ?_) (fun h2 => ?_)
    · skip
      refine RP_ite (fun h3 => ?_) (fun h3 => ?_)
      · skip
        refine RP_ite (fun h4 => ?_) (fun h4 => ?_)
        · skip
          refine RP_bnd (u_rf_wrong 4 (s.2.1 8) s.2) (fun y28 h5 => ?_)
          have h6 : UR F_rfb_takeList_30 A_rfb_takeList_30 s.2 y28.2 := (UR_s h5 UR_0 rfl rfl)
          exact RP_w (u_rfl_takeList_69 v1 y28.2) (sl_w (fun z hz => (UR_s hz h6 rfl rfl)) (sl_w (fun z hz => (UR_s hz h6 rfl rfl)) (fun z hz => (UR_s hz h6 rfl rfl))))
        · skip
          exact RP_w (u_rfl_takeList_69 v1 s.2) (sl_w (fun z hz => (UR_s hz UR_0 rfl rfl)) (sl_w (fun z hz => (UR_s hz UR_0 rfl rfl)) (fun z hz => (UR_s hz UR_0 rfl rfl))))
      · skip
        exact RP_w (u_rfl_takeList_69 v1 s.2) (sl_w (fun z hz => (UR_s hz UR_0 rfl rfl)) (sl_w (fun z hz => (UR_s hz UR_0 rfl rfl)) (fun z hz => (UR_s hz UR_0 rfl rfl))))
    · skip
      exact RP_some UR_0
theorem uw_rfb_takeList_30 (v1 : Int) (s : Int × mR) : RP (whl (rfb_takeList_30 v1) s) (sel (fun z : ((mR)) => UR F_rfb_takeList_30 A_rfb_takeList_30 s.2 z) (fun z : mR => UR F_rfb_takeList_30 A_rfb_takeList_30 s.2 z)) := RP_whl (I := fun q : Int × mR => UR F_rfb_takeList_30 A_rfb_takeList_30 s.2 q.2) (fun q hq => RP_w (u_rfb_takeList_30 v1 q) (sl_w (fun z hz => (UR_s hz hq rfl rfl)) (sl_w (fun z hz => (UR_s hz hq rfl rfl)) (fun z hz => (UR_s hz hq rfl rfl))))) UR_0
def F_rfl_takeList_28 : List Nat := [7, 8, 9, 10, 11, 12]
def A_rfl_takeList_28 : List Nat := [53, 114, 116]
theorem u_rfl_takeList_28 (v1 : Int) (m : mR) : RP (rfl_takeList_28 v1 m) (fun z : Int × mR => UR F_rfl_takeList_28 A_rfl_takeList_28 m z.2) := by
  unfold rfl_takeList_28
  refine RP_bnd (uw_rfb_takeList_30 v1 (1, m)) (RP_sl (fun e31 h1 => ?_) (fun e34 h3 => ?_))
  · skip
    have h2 : UR F_rfl_takeList_28 A_rfl_takeList_28 m e31 := (UR_s h1 UR_0 rfl rfl)
    exact RP_some h2
  · skip
    have h4 : UR F_rfl_takeList_28 A_rfl_takeList_28 m e34 := (UR_s h3 UR_0 rfl rfl)
    exact RP_w (u_rfl_takeList_183 e34) (fun z hz => (UR_s hz h4 rfl rfl))
def F_rfb_takeList_9 : List Nat := []
def A_rfb_takeList_9 : List Nat := [116]
theorem u_rfb_takeList_9 (v1 : Int) (s : Int × mR) : RP (rfb_takeList_9 v1 s) (sel (fun z : (Int × mR) => UR F_rfb_takeList_9 A_rfb_takeList_9 s.2 z.2) (fun z : mR => UR F_rfb_takeList_9 A_rfb_takeList_9 s.2 z)) := by
  unfold rfb_takeList_9
  refine RP_ite (fun h1 => ?_) (fun h1 => ?_)
  · skip
    exact RP_some UR_0
  · skip
    exact RP_some (UR_m UR_0 rfl rfl (fun h => h))
theorem uw_rfb_takeList_9 (v1 : Int) (s : Int × mR) : RP (whl (rfb_takeList_9 v1) s) (fun z : mR => UR F_rfb_takeList_9 A_rfb_takeList_9 s.2 z) := RP_whl (I := fun q : Int × mR => UR F_rfb_takeList_9 A_rfb_takeList_9 s.2 q.2) (fun q hq => RP_w (u_rfb_takeList_9 v1 q) (sl_w (fun z hz => (UR_s hz hq rfl rfl)) (fun z hz => (UR_s hz hq rfl rfl)))) UR_0
def F_rfl_takeList_7 : List Nat := [7, 8, 9, 10, 11, 12]
def A_rfl_takeList_7 : List Nat := [53, 114, 116]
theorem u_rfl_takeList_7 (v1 : Int) (m : mR) : RP (rfl_takeList_7 v1 m) (fun z : Int × mR => UR F_rfl_takeList_7 A_rfl_takeList_7 m z.2) := by
  unfold rfl_takeList_7
  refine RP_bnd (uw_rfb_takeList_9 v1 (0, m)) (fun e39 h1 => ?_)
  have h2 : UR F_rfl_takeList_7 A_rfl_takeList_7 m e39 := (UR_s h1 UR_0 rfl rfl)
  exact RP_w (u_rfl_takeList_28 v1 e39) (fun z hz => (UR_s hz h2 rfl rfl))
theorem u_rf_takeList (v1 : Int) (m : mR) : RP (rf_takeList v1 m) (fun z : Int × mR => UR rF_takeList rA_takeList m z.2) := by
  unfold rf_takeList
  refine RP_bnd (u_rf_need 315 m) (fun y42 h1 => ?_)
  have h2 : UR rF_takeList rA_takeList m y42.2 := (UR_s h1 UR_0 rfl rfl)
  exact RP_w (u_rfl_takeList_7 v1 y42.2) (fun z hz => (UR_s hz h2 rfl rfl))
