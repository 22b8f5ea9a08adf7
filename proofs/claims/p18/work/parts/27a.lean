def rF_begin : List Nat := [128, 130, 148, 149, 150, 151, 152]
def rA_begin : List Nat := [138, 139]
def F_rfl_begin_53 : List Nat := [148, 149, 150, 151, 152]
def A_rfl_begin_53 : List Nat := []
theorem u_rfl_begin_53 (m : mR) : RP (rfl_begin_53 m) (fun z : Int × mR => UR F_rfl_begin_53 A_rfl_begin_53 m z.2) := by
  unfold rfl_begin_53
  exact RP_some (UR_m UR_0 rfl rfl (fun h => h))
def F_rfb_begin_34 : List Nat := []
def A_rfb_begin_34 : List Nat := [139]
theorem u_rfb_begin_34 (s : Int × mR) : RP (rfb_begin_34 s) (sel (fun z : (Int × mR) => UR F_rfb_begin_34 A_rfb_begin_34 s.2 z.2) (fun z : mR => UR F_rfb_begin_34 A_rfb_begin_34 s.2 z)) := by
  unfold rfb_begin_34
  refine RP_ite (fun h1 => ?_) (fun h1 => ?_)
  · skip
    exact RP_some UR_0
  · skip
    exact RP_some (UR_m UR_0 rfl rfl (fun h => h))
theorem uw_rfb_begin_34 (s : Int × mR) : RP (whl rfb_begin_34 s) (fun z : mR => UR F_rfb_begin_34 A_rfb_begin_34 s.2 z) := RP_whl (I := fun q : Int × mR => UR F_rfb_begin_34 A_rfb_begin_34 s.2 q.2) (fun q hq => RP_w (u_rfb_begin_34 q) (sl_w (fun z hz => (UR_s hz hq rfl rfl)) (fun z hz => (UR_s hz hq rfl rfl)))) UR_0
def F_rfl_begin_32 : List Nat := [148, 149, 150, 151, 152]
def A_rfl_begin_32 : List Nat := [139]
theorem u_rfl_begin_32 (m : mR) : RP (rfl_begin_32 m) (fun z : Int × mR => UR F_rfl_begin_32 A_rfl_begin_32 m z.2) := by
  unfold rfl_begin_32
  refine RP_bnd (uw_rfb_begin_34 (0, m)) (fun e5 h1 => ?_)
  have h2 : UR F_rfl_begin_32 A_rfl_begin_32 m e5 := (UR_s h1 UR_0 rfl rfl)
  exact RP_w (u_rfl_begin_53 e5) (fun z hz => (UR_s hz h2 rfl rfl))
def F_rfb_begin_12 : List Nat := []
def A_rfb_begin_12 : List Nat := [138]
theorem u_rfb_begin_12 (s : Int × mR) : RP (rfb_begin_12 s) (sel (fun z : (Int × mR) => UR F_rfb_begin_12 A_rfb_begin_12 s.2 z.2) (fun z : mR => UR F_rfb_begin_12 A_rfb_begin_12 s.2 z)) := by
  unfold rfb_begin_12
  refine RP_ite (fun h1 => ?_) (fun h1 => ?_)
  · skip
    exact RP_some UR_0
  · skip
    exact RP_some (UR_m UR_0 rfl rfl (fun h => h))
theorem uw_rfb_begin_12 (s : Int × mR) : RP (whl rfb_begin_12 s) (fun z : mR => UR F_rfb_begin_12 A_rfb_begin_12 s.2 z) := RP_whl (I := fun q : Int × mR => UR F_rfb_begin_12 A_rfb_begin_12 s.2 q.2) (fun q hq => RP_w (u_rfb_begin_12 q) (sl_w (fun z hz => (UR_s hz hq rfl rfl)) (fun z hz => (UR_s hz hq rfl rfl)))) UR_0
theorem u_rf_begin (m : mR) : RP (rf_begin m) (fun z : Int × mR => UR rF_begin rA_begin m z.2) := by
  unfold rf_begin
  refine RP_bnd (uw_rfb_begin_12 (0, (mO m [(128, 0), (130, (-1))] []))) (fun e10 h1 => ?_)
  have h2 : UR rF_begin rA_begin m e10 := (UR_s h1 (UR_m UR_0 rfl rfl (fun h => h)) rfl rfl)
  exact RP_w (u_rfl_begin_32 e10) (fun z hz => (UR_s hz h2 rfl rfl))
def rF_lookNumber : List Nat := [7, 9, 12]
def rA_lookNumber : List Nat := []
def F_rfl_lookNumber_199 : List Nat := [7]
def A_rfl_lookNumber_199 : List Nat := []
theorem u_rfl_lookNumber_199 (u1 : Int) (m : mR) : RP (rfl_lookNumber_199 u1 m) (fun z : Int × mR => UR F_rfl_lookNumber_199 A_rfl_lookNumber_199 m z.2) := by
  unfold rfl_lookNumber_199
  exact RP_some (UR_m UR_0 rfl rfl (fun h => h))
def F_rfl_lookNumber_198 : List Nat := [7]
def A_rfl_lookNumber_198 : List Nat := []
theorem u_rfl_lookNumber_198 (m : mR) : RP (rfl_lookNumber_198 m) (fun z : Int × mR => UR F_rfl_lookNumber_198 A_rfl_lookNumber_198 m z.2) := by
  unfold rfl_lookNumber_198
  exact RP_w (u_rfl_lookNumber_199 2 m) (fun z hz => (UR_s hz UR_0 rfl rfl))
def F_rfl_lookNumber_194 : List Nat := [7]
def A_rfl_lookNumber_194 : List Nat := []
theorem u_rfl_lookNumber_194 (m : mR) : RP (rfl_lookNumber_194 m) (fun z : Int × mR => UR F_rfl_lookNumber_194 A_rfl_lookNumber_194 m z.2) := by
  unfold rfl_lookNumber_194
  exact RP_w (u_rfl_lookNumber_199 3 m) (fun z hz => (UR_s hz UR_0 rfl rfl))
def F_rfl_lookNumber_172 : List Nat := [7]
def A_rfl_lookNumber_172 : List Nat := []
theorem u_rfl_lookNumber_172 (v1 : Int) (m : mR) : RP (rfl_lookNumber_172 v1 m) (fun z : Int × mR => UR F_rfl_lookNumber_172 A_rfl_lookNumber_172 m z.2) := by
  unfold rfl_lookNumber_172
  refine RP_ite (fun h1 => ?_) (fun h1 => ?_)
  · skip
    exact RP_w (u_rfl_lookNumber_194 m) (fun z hz => (UR_s hz UR_0 rfl rfl))
  · skip
    refine RP_ite (fun h2 => ?_) (fun h2 => ?_)
    · skip
      exact RP_w (u_rfl_lookNumber_198 m) (fun z hz => (UR_s hz UR_0 rfl rfl))
    · skip
      refine RP_ite (fun h3 => ?_) (fun h3 => ?_)
      · skip
        exact RP_w (u_rfl_lookNumber_194 m) (fun z hz => (UR_s hz UR_0 rfl rfl))
      · skip
        exact RP_w (u_rfl_lookNumber_198 m) (fun z hz => (UR_s hz UR_0 rfl rfl))
def F_rfl_lookNumber_156 : List Nat := [9, 12]
def A_rfl_lookNumber_156 : List Nat := []
theorem u_rfl_lookNumber_156 (v1 : Int) (u1 : Int) (m : mR) : RP (rfl_lookNumber_156 v1 u1 m) (sel (fun z : (mR) => UR F_rfl_lookNumber_156 A_rfl_lookNumber_156 m z) (fun z : mR => UR F_rfl_lookNumber_156 A_rfl_lookNumber_156 m z)) := by
  unfold rfl_lookNumber_156
  exact RP_some (UR_m UR_0 rfl rfl (fun h => h))
def F_rfl_lookNumber_97 : List Nat := [9, 12]
def A_rfl_lookNumber_97 : List Nat := []
theorem u_rfl_lookNumber_97 (v1 : Int) (m : mR) : RP (rfl_lookNumber_97 v1 m) (sel (fun z : (mR) => UR F_rfl_lookNumber_97 A_rfl_lookNumber_97 m z) (fun z : mR => UR F_rfl_lookNumber_97 A_rfl_lookNumber_97 m z)) := by
  unfold rfl_lookNumber_97
  refine RP_ite (fun h1 => ?_) (fun h1 => ?_)
  · skip
    refine RP_bndT (fun y6 => ?_)
    exact RP_w (u_rfl_lookNumber_156 v1 (cutl ((cutl ((cutl (10 * (m.1 12))) + y6)) - 48)) m) (sl_w (fun z hz => (UR_s hz UR_0 rfl rfl)) (fun z hz => (UR_s hz UR_0 rfl rfl)))
  · skip
    refine RP_bndT (fun y8 => ?_)
    refine RP_bndT (fun y10 => ?_)
    exact RP_w (u_rfl_lookNumber_156 v1 (or64 (shl64 (m.1 12) 4) y10) m) (sl_w (fun z hz => (UR_s hz UR_0 rfl rfl)) (fun z hz => (UR_s hz UR_0 rfl rfl)))
def F_rfb_lookNumber_52 : List Nat := [9, 12]
def A_rfb_lookNumber_52 : List Nat := []
theorem u_rfb_lookNumber_52 (v1 : Int) (s : mR) : RP (rfb_lookNumber_52 v1 s) (sel (fun z : (mR) => UR F_rfb_lookNumber_52 A_rfb_lookNumber_52 s z) (fun z : mR => UR F_rfb_lookNumber_52 A_rfb_lookNumber_52 s z)) := by
  unfold rfb_lookNumber_52
  refine RP_ite (fun h1 => ?_) (fun h1 => ?_)
  · skip
    refine RP_bndT (fun y14 => ?_)
    refine RP_bndT (fun y16 => ?_)
    refine RP_ite (fun h2 => ?_) (fun h2 => ?_)
    · skip
      exact RP_some UR_0
    · skip
      exact RP_w (u_rfl_lookNumber_97 v1 s) (sl_w (fun z hz => (UR_s hz UR_0 rfl rfl)) (fun z hz => (UR_s hz UR_0 rfl rfl)))
  · skip
    refine RP_bndT (fun y19 => ?_)
    refine RP_bndT (fun y21 => ?_)
    refine RP_ite (fun h3 => ?_) (fun h3 => ?_)
    · skip
      exact RP_some UR_0
    · skip
      exact RP_w (u_rfl_lookNumber_97 v1 s) (sl_w (fun z hz => (UR_s hz UR_0 rfl rfl)) (fun z hz => (UR_s hz UR_0 rfl rfl)))
theorem uw_rfb_lookNumber_52 (v1 : Int) (s : mR) : RP (whl (rfb_lookNumber_52 v1) s) (fun z : mR => UR F_rfb_lookNumber_52 A_rfb_lookNumber_52 s z) := RP_whl (I := fun q : mR => UR F_rfb_lookNumber_52 A_rfb_lookNumber_52 s q) (fun q hq => RP_w (u_rfb_lookNumber_52 v1 q) (sl_w (fun z hz => (UR_s hz hq rfl rfl)) (fun z hz => (UR_s hz hq rfl rfl)))) UR_0
def F_rfl_lookNumber_49 : List Nat := [7, 9, 12]
def A_rfl_lookNumber_49 : List Nat := []
theorem u_rfl_lookNumber_49 (v1 : Int) (u1 : Int) (m : mR) : RP (rfl_lookNumber_49 v1 u1 m) (fun z : Int × mR => UR F_rfl_lookNumber_49 A_rfl_lookNumber_49 m z.2) := by
  unfold rfl_lookNumber_49
  refine RP_bnd (uw_rfb_lookNumber_52 v1 (mO m [(9, u1)] [])) (fun e24 h1 => ?_)
  have h2 : UR F_rfl_lookNumber_49 A_rfl_lookNumber_49 m e24 := (UR_s h1 (UR_m UR_0 rfl rfl (fun h => h)) rfl rfl)
  exact RP_w (u_rfl_lookNumber_172 v1 e24) (fun z hz => (UR_s hz h2 rfl rfl))
def F_rfl_lookNumber_38 : List Nat := [7, 9, 12]
def A_rfl_lookNumber_38 : List Nat := []
theorem u_rfl_lookNumber_38 (u0 : Int) (m : mR) : RP (rfl_lookNumber_38 u0 m) (fun z : Int × mR => UR F_rfl_lookNumber_38 A_rfl_lookNumber_38 m z.2) := by
  unfold rfl_lookNumber_38
  refine RP_ite (fun h1 => ?_) (fun h1 => ?_)
  · skip
    exact RP_w (u_rfl_lookNumber_49 u0 0 m) (fun z hz => (UR_s hz UR_0 rfl rfl))
  · skip
    exact RP_w (u_rfl_lookNumber_49 u0 2 m) (fun z hz => (UR_s hz UR_0 rfl rfl))
def F_rfl_lookNumber_37 : List Nat := [7, 9, 12]
def A_rfl_lookNumber_37 : List Nat := []
theorem u_rfl_lookNumber_37 (m : mR) : RP (rfl_lookNumber_37 m) (fun z : Int × mR => UR F_rfl_lookNumber_37 A_rfl_lookNumber_37 m z.2) := by
  unfold rfl_lookNumber_37
  exact RP_w (u_rfl_lookNumber_38 0 m) (fun z hz => (UR_s hz UR_0 rfl rfl))
theorem u_rf_lookNumber (m : mR) : RP (rf_lookNumber m) (fun z : Int × mR => UR rF_lookNumber rA_lookNumber m z.2) := by
  unfold rf_lookNumber
  refine RP_bndT (fun y28 => ?_)
  refine RP_ite (fun h1 => ?_) (fun h1 => ?_)
  · skip
    refine RP_bndT (fun y31 => ?_)
    refine RP_ite (fun h2 => ?_) (fun h2 => ?_)
    · skip
      exact RP_w (u_rfl_lookNumber_38 1 (mO m [(12, 0)] [])) (fun z hz => (UR_s hz (UR_m UR_0 rfl rfl (fun h => h)) rfl rfl))
    · skip
      exact RP_w (u_rfl_lookNumber_37 (mO m [(12, 0)] [])) (fun z hz => (UR_s hz (UR_m UR_0 rfl rfl (fun h => h)) rfl rfl))
  · skip
    exact RP_w (u_rfl_lookNumber_37 (mO m [(12, 0)] [])) (fun z hz => (UR_s hz (UR_m UR_0 rfl rfl (fun h => h)) rfl rfl))
def rF_wrong : List Nat := [10, 11]
def rA_wrong : List Nat := []
theorem u_rf_wrong (v1 : Int) (v2 : Int) (m : mR) : RP (rf_wrong v1 v2 m) (fun z : Int × mR => UR rF_wrong rA_wrong m z.2) := by
  unfold rf_wrong
  refine RP_ite (fun h1 => ?_) (fun h1 => ?_)
  · first
    | exact RP_some ⟨fr_m fr_0 rfl rfl, fun h => absurd h (by omega)⟩
    | exact RP_some UR_0
  · first
    | exact RP_some ⟨fr_m fr_0 rfl rfl, fun h => absurd h (by omega)⟩
    | exact RP_some UR_0
def rF_look : List Nat := [7, 9, 10, 11, 12]
def rA_look : List Nat := []
def F_rfl_look_210 : List Nat := [10, 11]
def A_rfl_look_210 : List Nat := []
theorem u_rfl_look_210 (m : mR) : RP (rfl_look_210 m) (fun z : Int × mR => UR F_rfl_look_210 A_rfl_look_210 m z.2) := by
  unfold rfl_look_210
  refine RP_ite (fun h1 => ?_) (fun h1 => ?_)
  · skip
    refine RP_bnd (u_rf_wrong 2 (m.1 8) m) (fun y3 h2 => ?_)
    have h3 : UR F_rfl_look_210 A_rfl_look_210 m y3.2 := (UR_s h2 UR_0 rfl rfl)
    exact RP_some h3
  · skip
    exact RP_some UR_0
def F_rfl_look_207 : List Nat := [7, 10, 11]
def A_rfl_look_207 : List Nat := []
theorem u_rfl_look_207 (u1 : Int) (m : mR) : RP (rfl_look_207 u1 m) (fun z : Int × mR => UR F_rfl_look_207 A_rfl_look_207 m z.2) := by
  unfold rfl_look_207
  exact RP_w (u_rfl_look_210 (mO m [(7, u1)] [])) (fun z hz => (UR_s hz (UR_m UR_0 rfl rfl (fun h => h)) rfl rfl))
def F_rfl_look_131 : List Nat := [7, 10, 11]
def A_rfl_look_131 : List Nat := []
theorem u_rfl_look_131 (u1 : Int) (m : mR) : RP (rfl_look_131 u1 m) (fun z : Int × mR => UR F_rfl_look_131 A_rfl_look_131 m z.2) := by
  unfold rfl_look_131
  exact RP_w (u_rfl_look_210 (mO m [(7, u1)] [])) (fun z hz => (UR_s hz (UR_m UR_0 rfl rfl (fun h => h)) rfl rfl))
def F_rfl_look_103 : List Nat := [7, 10, 11]
def A_rfl_look_103 : List Nat := []
theorem u_rfl_look_103 (m : mR) : RP (rfl_look_103 m) (fun z : Int × mR => UR F_rfl_look_103 A_rfl_look_103 m z.2) := by
  unfold rfl_look_103
  refine RP_bndT (fun y6 => ?_)
  refine RP_ite (fun h1 => ?_) (fun h1 => ?_)
  · skip
    refine RP_ite (fun h2 => ?_) (fun h2 => ?_)
    · skip
      exact RP_w (u_rfl_look_131 1 m) (fun z hz => (UR_s hz UR_0 rfl rfl))
    · skip
      exact RP_w (u_rfl_look_131 y6 m) (fun z hz => (UR_s hz UR_0 rfl rfl))
  · skip
    exact RP_w (u_rfl_look_131 3 m) (fun z hz => (UR_s hz UR_0 rfl rfl))
def F_rfl_look_90 : List Nat := [9]
def A_rfl_look_90 : List Nat := []
theorem u_rfl_look_90 (m : mR) : RP (rfl_look_90 m) (sel (fun z : (mR) => UR F_rfl_look_90 A_rfl_look_90 m z) (fun z : mR => UR F_rfl_look_90 A_rfl_look_90 m z)) := by
  unfold rfl_look_90
  exact RP_some (UR_m UR_0 rfl rfl (fun h => h))
def F_rfb_look_34 : List Nat := [9]
def A_rfb_look_34 : List Nat := []
theorem u_rfb_look_34 (s : mR) : RP (rfb_look_34 s) (sel (fun z : (mR) => UR F_rfb_look_34 A_rfb_look_34 s z) (fun z : mR => UR F_rfb_look_34 A_rfb_look_34 s z)) := by
  unfold rfb_look_34
  refine RP_bndT (fun y11 => ?_)
  refine RP_bndT (fun y13 => ?_)
  refine RP_ite (fun h1 => ?_) (fun h1 => ?_)
  · skip
    refine RP_bndT (fun y16 => ?_)
    refine RP_bndT (fun y18 => ?_)
    refine RP_ite (fun h2 => ?_) (fun h2 => ?_)
    · skip
      refine RP_bndT (fun y21 => ?_)
      refine RP_ite (fun h3 => ?_) (fun h3 => ?_)
      · skip
        exact RP_w (u_rfl_look_90 s) (sl_w (fun z hz => (UR_s hz UR_0 rfl rfl)) (fun z hz => (UR_s hz UR_0 rfl rfl)))
      · skip
        exact RP_some UR_0
    · skip
      exact RP_w (u_rfl_look_90 s) (sl_w (fun z hz => (UR_s hz UR_0 rfl rfl)) (fun z hz => (UR_s hz UR_0 rfl rfl)))
  · skip
    exact RP_w (u_rfl_look_90 s) (sl_w (fun z hz => (UR_s hz UR_0 rfl rfl)) (fun z hz => (UR_s hz UR_0 rfl rfl)))
theorem uw_rfb_look_34 (s : mR) : RP (whl rfb_look_34 s) (fun z : mR => UR F_rfb_look_34 A_rfb_look_34 s z) := RP_whl (I := fun q : mR => UR F_rfb_look_34 A_rfb_look_34 s q) (fun q hq => RP_w (u_rfb_look_34 q) (sl_w (fun z hz => (UR_s hz hq rfl rfl)) (fun z hz => (UR_s hz hq rfl rfl)))) UR_0
theorem u_rf_look (m : mR) : RP (rf_look m) (fun z : Int × mR => UR rF_look rA_look m z.2) := by
  unfold rf_look
  refine RP_bndT (fun y24 => ?_)
  refine RP_ite (fun h1 => ?_) (fun h1 => ?_)
  · skip
    exact RP_w (u_rfl_look_210 (mO m [(7, 0), (9, 1)] [])) (fun z hz => (UR_s hz (UR_m UR_0 rfl rfl (fun h => h)) rfl rfl))
  · skip
    refine RP_bndT (fun y27 => ?_)
    refine RP_ite (fun h2 => ?_) (fun h2 => ?_)
    · skip
      refine RP_bndT (fun y30 => ?_)
      refine RP_ite (fun h3 => ?_) (fun h3 => ?_)
      · skip
        refine RP_bndT (fun y33 => ?_)
        refine RP_bndT (fun y35 => ?_)
        refine RP_ite (fun h4 => ?_) (fun h4 => ?_)
        · skip
          refine RP_bndT (fun y38 => ?_)
          refine RP_ite (fun h5 => ?_) (fun h5 => ?_)
          · skip
            exact RP_w (u_rfl_look_207 3 (mO m [(9, 1)] [])) (fun z hz => (UR_s hz (UR_m UR_0 rfl rfl (fun h => h)) rfl rfl))
          · skip
            exact RP_w (u_rfl_look_207 y24 (mO m [(9, 1)] [])) (fun z hz => (UR_s hz (UR_m UR_0 rfl rfl (fun h => h)) rfl rfl))
        · skip
          refine RP_bndT (fun y41 => ?_)
          refine RP_bndT (fun y43 => ?_)
          exact RP_w (u_rfl_look_210 (mO m [(7, y43), (9, 2)] [])) (fun z hz => (UR_s hz (UR_m UR_0 rfl rfl (fun h => h)) rfl rfl))
      · skip
        refine RP_bnd (u_rf_lookNumber (mO m [(9, 1)] [])) (fun y45 h6 => ?_)
        have h7 : UR rF_look rA_look m y45.2 := (UR_s h6 (UR_m UR_0 rfl rfl (fun h => h)) rfl rfl)
        exact RP_w (u_rfl_look_210 y45.2) (fun z hz => (UR_s hz h7 rfl rfl))
    · skip
      refine RP_bnd (uw_rfb_look_34 (mO m [(9, 1)] [])) (fun e48 h8 => ?_)
      have h9 : UR rF_look rA_look m e48 := (UR_s h8 (UR_m UR_0 rfl rfl (fun h => h)) rfl rfl)
      exact RP_w (u_rfl_look_103 e48) (fun z hz => (UR_s hz h9 rfl rfl))
def rF_next : List Nat := [7, 8, 9, 10, 11, 12]
def rA_next : List Nat := []
def F_rfl_next_60 : List Nat := [7, 9, 10, 11, 12]
def A_rfl_next_60 : List Nat := []
theorem u_rfl_next_60 (m : mR) : RP (rfl_next_60 m) (fun z : Int × mR => UR F_rfl_next_60 A_rfl_next_60 m z.2) := by
  unfold rfl_next_60
  refine RP_bnd (u_rf_look m) (fun y2 h1 => ?_)
  have h2 : UR F_rfl_next_60 A_rfl_next_60 m y2.2 := (UR_s h1 UR_0 rfl rfl)
  exact RP_some h2
def F_rfl_next_47 : List Nat := [8]
def A_rfl_next_47 : List Nat := []
theorem u_rfl_next_47 (m : mR) : RP (rfl_next_47 m) (sel (fun z : (mR) => UR F_rfl_next_47 A_rfl_next_47 m z) (fun z : mR => UR F_rfl_next_47 A_rfl_next_47 m z)) := by
  unfold rfl_next_47
  exact RP_some (UR_m UR_0 rfl rfl (fun h => h))
def F_rfb_next_21 : List Nat := [8]
def A_rfb_next_21 : List Nat := []
theorem u_rfb_next_21 (s : mR) : RP (rfb_next_21 s) (sel (fun z : (mR) => UR F_rfb_next_21 A_rfb_next_21 s z) (fun z : mR => UR F_rfb_next_21 A_rfb_next_21 s z)) := by
  unfold rfb_next_21
  refine RP_bndT (fun y6 => ?_)
  refine RP_ite (fun h1 => ?_) (fun h1 => ?_)
  · skip
    exact RP_w (u_rfl_next_47 s) (sl_w (fun z hz => (UR_s hz UR_0 rfl rfl)) (fun z hz => (UR_s hz UR_0 rfl rfl)))
  · skip
    refine RP_bndT (fun y9 => ?_)
    refine RP_ite (fun h2 => ?_) (fun h2 => ?_)
    · skip
      exact RP_w (u_rfl_next_47 s) (sl_w (fun z hz => (UR_s hz UR_0 rfl rfl)) (fun z hz => (UR_s hz UR_0 rfl rfl)))
    · skip
      exact RP_some UR_0
theorem uw_rfb_next_21 (s : mR) : RP (whl rfb_next_21 s) (fun z : mR => UR F_rfb_next_21 A_rfb_next_21 s z) := RP_whl (I := fun q : mR => UR F_rfb_next_21 A_rfb_next_21 s q) (fun q hq => RP_w (u_rfb_next_21 q) (sl_w (fun z hz => (UR_s hz hq rfl rfl)) (fun z hz => (UR_s hz hq rfl rfl)))) UR_0
theorem u_rf_next (m : mR) : RP (rf_next m) (fun z : Int × mR => UR rF_next rA_next m z.2) := by
  unfold rf_next
  refine RP_ite (fun h1 => ?_) (fun h1 => ?_)
  · skip
    refine RP_bnd (uw_rfb_next_21 (mO m [(8, cut ((m.1 8) + (m.1 9)))] [])) (fun e13 h2 => ?_)
    have h3 : UR rF_next rA_next m e13 := (UR_s h2 (UR_m UR_0 rfl rfl (fun h => h)) rfl rfl)
    exact RP_w (u_rfl_next_60 e13) (fun z hz => (UR_s hz h3 rfl rfl))
  · skip
    exact RP_some UR_0
def rF_bad : List Nat := [10, 11]
def rA_bad : List Nat := []
theorem u_rf_bad (m : mR) : RP (rf_bad m) (fun z : Int × mR => UR rF_bad rA_bad m z.2) := by
  unfold rf_bad
  refine RP_bnd (u_rf_wrong 1 (m.1 8) m) (fun y1 h1 => ?_)
  have h2 : UR rF_bad rA_bad m y1.2 := (UR_s h1 UR_0 rfl rfl)
  exact RP_some h2
def rF_enter : List Nat := [13]
def rA_enter : List Nat := [14, 15, 16, 17]
theorem u_rf_enter (v1 : Int) (v2 : Int) (m : mR) : RP (rf_enter v1 v2 m) (fun z : Int × mR => UR rF_enter rA_enter m z.2) := by
  unfold rf_enter
  exact RP_some (UR_m UR_0 rfl rfl (fun h => h))
def rF_newName : List Nat := [7, 8, 9, 10, 11, 12, 13]
def rA_newName : List Nat := [14, 15, 16, 17]
def F_rfl_newName_73 : List Nat := [7, 8, 9, 10, 11, 12]
def A_rfl_newName_73 : List Nat := []
theorem u_rfl_newName_73 (m : mR) : RP (rfl_newName_73 m) (fun z : Int × mR => UR F_rfl_newName_73 A_rfl_newName_73 m z.2) := by
  unfold rfl_newName_73
  refine RP_bnd (u_rf_next m) (fun y1 h1 => ?_)
  have h2 : UR F_rfl_newName_73 A_rfl_newName_73 m y1.2 := (UR_s h1 UR_0 rfl rfl)
  exact RP_some h2
def F_rfl_newName_58 : List Nat := [7, 8, 9, 10, 11, 12, 13]
def A_rfl_newName_58 : List Nat := [14, 15, 16, 17]
theorem u_rfl_newName_58 (v1 : Int) (v2 : Int) (m : mR) : RP (rfl_newName_58 v1 v2 m) (fun z : Int × mR => UR F_rfl_newName_58 A_rfl_newName_58 m z.2) := by
  unfold rfl_newName_58
  refine RP_ite (fun h1 => ?_) (fun h1 => ?_)
  · skip
    refine RP_bnd (u_rf_enter v1 v2 m) (fun y5 h2 => ?_)
    have h3 : UR F_rfl_newName_58 A_rfl_newName_58 m y5.2 := (UR_s h2 UR_0 rfl rfl)
    exact RP_w (u_rfl_newName_73 y5.2) (fun z hz => (UR_s hz h3 rfl rfl))
  · skip
    exact RP_some UR_0
theorem u_rf_newName (v1 : Int) (v2 : Int) (v3 : Int) (m : mR) : RP (rf_newName v1 v2 v3 m) (fun z : Int × mR => UR rF_newName rA_newName m z.2) := by
  unfold rf_newName
  refine RP_ite (fun h1 => ?_) (fun h1 => ?_)
  · skip
    refine RP_ite (fun h2 => ?_) (fun h2 => ?_)
    · skip
      refine RP_ite (fun h3 => ?_) (fun h3 => ?_)
      · skip
        refine RP_bnd (u_rf_wrong 4 (m.1 8) m) (fun y17 h4 => ?_)
        have h5 : UR rF_newName rA_newName m y17.2 := (UR_s h4 UR_0 rfl rfl)
        exact RP_w (u_rfl_newName_58 v1 v2 y17.2) (fun z hz => (UR_s hz h5 rfl rfl))
      · skip
        refine RP_bndT (fun y11 => ?_)
        refine RP_ite (fun h6 => ?_) (fun h6 => ?_)
        · skip
          exact RP_w (u_rfl_newName_58 v1 v2 m) (fun z hz => (UR_s hz UR_0 rfl rfl))
        · skip
          refine RP_bnd (u_rf_wrong 3 (m.1 8) m) (fun y14 h7 => ?_)
          have h8 : UR rF_newName rA_newName m y14.2 := (UR_s h7 UR_0 rfl rfl)
          exact RP_w (u_rfl_newName_58 v1 v2 y14.2) (fun z hz => (UR_s hz h8 rfl rfl))
    · skip
      refine RP_bnd (u_rf_bad m) (fun y20 h9 => ?_)
      have h10 : UR rF_newName rA_newName m y20.2 := (UR_s h9 UR_0 rfl rfl)
      exact RP_w (u_rfl_newName_58 v1 v2 y20.2) (fun z hz => (UR_s hz h10 rfl rfl))
  · skip
    exact RP_some UR_0
def rF_need : List Nat := [7, 8, 9, 10, 11, 12]
def rA_need : List Nat := []
theorem u_rf_need (v1 : Int) (m : mR) : RP (rf_need v1 m) (fun z : Int × mR => UR rF_need rA_need m z.2) := by
  unfold rf_need
  refine RP_ite (fun h1 => ?_) (fun h1 => ?_)
  · skip
    refine RP_ite (fun h2 => ?_) (fun h2 => ?_)
    · skip
      refine RP_bnd (u_rf_next m) (fun y6 h3 => ?_)
      have h4 : UR rF_need rA_need m y6.2 := (UR_s h3 UR_0 rfl rfl)
      exact RP_some h4
    · skip
      refine RP_bnd (u_rf_bad m) (fun y3 h5 => ?_)
      have h6 : UR rF_need rA_need m y3.2 := (UR_s h5 UR_0 rfl rfl)
      exact RP_some h6
  · skip
    exact RP_some UR_0
def rF_number : List Nat := [7, 8, 9, 10, 11, 12]
def rA_number : List Nat := []
def F_rfl_number_53 : List Nat := [7, 8, 9, 10, 11, 12]
def A_rfl_number_53 : List Nat := []
theorem u_rfl_number_53 (v1 : Int) (m : mR) : RP (rfl_number_53 v1 m) (fun z : Int × mR => UR F_rfl_number_53 A_rfl_number_53 m z.2) := by
  unfold rfl_number_53
  refine RP_ite (fun h1 => ?_) (fun h1 => ?_)
  · skip
    refine RP_bnd (u_rf_next m) (fun y2 h2 => ?_)
    have h3 : UR F_rfl_number_53 A_rfl_number_53 m y2.2 := (UR_s h2 UR_0 rfl rfl)
    exact RP_some h3
  · skip
    exact RP_some UR_0
def F_rfl_number_44 : List Nat := [7, 8, 9, 10, 11, 12]
def A_rfl_number_44 : List Nat := []
theorem u_rfl_number_44 (v1 : Int) (m : mR) : RP (rfl_number_44 v1 m) (fun z : Int × mR => UR F_rfl_number_44 A_rfl_number_44 m z.2) := by
  unfold rfl_number_44
  refine RP_bnd (u_rf_wrong 5 (m.1 8) m) (fun y5 h1 => ?_)
  have h2 : UR F_rfl_number_44 A_rfl_number_44 m y5.2 := (UR_s h1 UR_0 rfl rfl)
  exact RP_w (u_rfl_number_53 v1 y5.2) (fun z hz => (UR_s hz h2 rfl rfl))
theorem u_rf_number (v1 : Int) (v2 : Int) (m : mR) : RP (rf_number v1 v2 m) (fun z : Int × mR => UR rF_number rA_number m z.2) := by
  unfold rf_number
  refine RP_ite (fun h1 => ?_) (fun h1 => ?_)
  · skip
    refine RP_ite (fun h2 => ?_) (fun h2 => ?_)
    · skip
      refine RP_ite (fun h3 => ?_) (fun h3 => ?_)
      · skip
        exact RP_w (u_rfl_number_44 v1 m) (fun z hz => (UR_s hz UR_0 rfl rfl))
      · skip
        refine RP_ite (fun h4 => ?_) (fun h4 => ?_)
        · skip
          exact RP_w (u_rfl_number_53 v1 m) (fun z hz => (UR_s hz UR_0 rfl rfl))
        · skip
          exact RP_w (u_rfl_number_44 v1 m) (fun z hz => (UR_s hz UR_0 rfl rfl))
    · skip
      refine RP_bnd (u_rf_bad m) (fun y12 h5 => ?_)
      have h6 : UR rF_number rA_number m y12.2 := (UR_s h5 UR_0 rfl rfl)
      exact RP_w (u_rfl_number_53 v1 y12.2) (fun z hz => (UR_s hz h6 rfl rfl))
  · skip
    exact RP_some UR_0
def rF_takeFieldOf : List Nat := [7, 8, 9, 10, 11, 12]
def rA_takeFieldOf : List Nat := [29, 30, 31, 32, 33]
def F_rfl_takeFieldOf_163 : List Nat := []
def A_rfl_takeFieldOf_163 : List Nat := [29, 30]
theorem u_rfl_takeFieldOf_163 (v1 : Int) (v2 : Int) (m : mR) : RP (rfl_takeFieldOf_163 v1 v2 m) (fun z : Int × mR => UR F_rfl_takeFieldOf_163 A_rfl_takeFieldOf_163 m z.2) := by
  unfold rfl_takeFieldOf_163
  exact RP_some (UR_m UR_0 rfl rfl (fun h => h))
def F_rfl_takeFieldOf_156 : List Nat := [7, 8, 9, 10, 11, 12]
def A_rfl_takeFieldOf_156 : List Nat := [29, 30, 33]
theorem u_rfl_takeFieldOf_156 (v1 : Int) (v2 : Int) (u1 : Int) (u2 : Int) (m : mR) : RP (rfl_takeFieldOf_156 v1 v2 u1 u2 m) (fun z : Int × mR => UR F_rfl_takeFieldOf_156 A_rfl_takeFieldOf_156 m z.2) := by
  unfold rfl_takeFieldOf_156
  refine RP_bnd (u_rf_need 59 (mO m [] [(33, upI (m.2 33) u1 u2)])) (fun y2 h1 => ?_)
  have h2 : UR F_rfl_takeFieldOf_156 A_rfl_takeFieldOf_156 m y2.2 := (UR_s h1 (UR_m UR_0 rfl rfl (fun h => h)) rfl rfl)
  exact RP_w (u_rfl_takeFieldOf_163 v1 v2 y2.2) (fun z hz => (UR_s hz h2 rfl rfl))
def F_rfl_takeFieldOf_144 : List Nat := [7, 8, 9, 10, 11, 12]
def A_rfl_takeFieldOf_144 : List Nat := [29, 30, 33]
theorem u_rfl_takeFieldOf_144 (v1 : Int) (v2 : Int) (m : mR) : RP (rfl_takeFieldOf_144 v1 v2 m) (fun z : Int × mR => UR F_rfl_takeFieldOf_144 A_rfl_takeFieldOf_144 m z.2) := by
  unfold rfl_takeFieldOf_144
  refine RP_bnd (u_rf_number 1 64 m) (fun y5 h1 => ?_)
  have h2 : UR F_rfl_takeFieldOf_144 A_rfl_takeFieldOf_144 m y5.2 := (UR_s h1 UR_0 rfl rfl)
  exact RP_w (u_rfl_takeFieldOf_156 v1 v2 v2 y5.1 y5.2) (fun z hz => (UR_s hz h2 rfl rfl))
def F_rfl_takeFieldOf_138 : List Nat := [7, 8, 9, 10, 11, 12]
def A_rfl_takeFieldOf_138 : List Nat := [29, 30, 33]
theorem u_rfl_takeFieldOf_138 (v1 : Int) (v2 : Int) (m : mR) : RP (rfl_takeFieldOf_138 v1 v2 m) (fun z : Int × mR => UR F_rfl_takeFieldOf_138 A_rfl_takeFieldOf_138 m z.2) := by
  unfold rfl_takeFieldOf_138
  refine RP_bnd (u_rf_need 58 m) (fun y8 h1 => ?_)
  have h2 : UR F_rfl_takeFieldOf_138 A_rfl_takeFieldOf_138 m y8.2 := (UR_s h1 UR_0 rfl rfl)
  exact RP_w (u_rfl_takeFieldOf_144 v1 v2 y8.2) (fun z hz => (UR_s hz h2 rfl rfl))
def F_rfl_takeFieldOf_106 : List Nat := [7, 8, 9, 10, 11, 12]
def A_rfl_takeFieldOf_106 : List Nat := [29, 30, 31, 32, 33]
theorem u_rfl_takeFieldOf_106 (v1 : Int) (v2 : Int) (m : mR) : RP (rfl_takeFieldOf_106 v1 v2 m) (fun z : Int × mR => UR F_rfl_takeFieldOf_106 A_rfl_takeFieldOf_106 m z.2) := by
  unfold rfl_takeFieldOf_106
  refine RP_ite (fun h1 => ?_) (fun h1 => ?_)
  · skip
    refine RP_bnd (u_rf_next (mO m [] [(31, upI (m.2 31) v2 (m.1 8)), (32, upI (m.2 32) v2 (m.1 9))])) (fun y12 h2 => ?_)
    have h3 : UR F_rfl_takeFieldOf_106 A_rfl_takeFieldOf_106 m y12.2 := (UR_s h2 (UR_m UR_0 rfl rfl (fun h => h)) rfl rfl)
    exact RP_w (u_rfl_takeFieldOf_138 v1 v2 y12.2) (fun z hz => (UR_s hz h3 rfl rfl))
  · skip
    exact RP_some UR_0
def F_rfl_takeFieldOf_100 : List Nat := []
def A_rfl_takeFieldOf_100 : List Nat := []
theorem u_rfl_takeFieldOf_100 (v1 : Int) (v2 : Int) (v3 : Int) (m : mR) : RP (rfl_takeFieldOf_100 v1 v2 v3 m) (sel (fun z : (Int × mR) => UR F_rfl_takeFieldOf_100 A_rfl_takeFieldOf_100 m z.2) (fun z : mR => UR F_rfl_takeFieldOf_100 A_rfl_takeFieldOf_100 m z)) := by
  unfold rfl_takeFieldOf_100
  exact RP_some UR_0
def F_rfb_takeFieldOf_60 : List Nat := [10, 11]
def A_rfb_takeFieldOf_60 : List Nat := []
theorem u_rfb_takeFieldOf_60 (v1 : Int) (v2 : Int) (s : Int × mR) : RP (rfb_takeFieldOf_60 v1 v2 s) (sel (fun z : (Int × mR) => UR F_rfb_takeFieldOf_60 A_rfb_takeFieldOf_60 s.2 z.2) (fun z : mR => UR F_rfb_takeFieldOf_60 A_rfb_takeFieldOf_60 s.2 z)) := by
  unfold rfb_takeFieldOf_60
  refine RP_ite (fun h1 => ?_) (fun h1 => ?_)
  · skip
    exact RP_some UR_0
  · skip
    refine RP_ite (fun h2 => ?_) (fun h2 => ?_)
    · skip
      refine RP_bndT (fun y18 => ?_)
      refine RP_ite (fun h3 => ?_) (fun h3 => ?_)
      · skip
        exact RP_w (u_rfl_takeFieldOf_100 v1 v2 s.1 s.2) (sl_w (fun z hz => (UR_s hz UR_0 rfl rfl)) (fun z hz => (UR_s hz UR_0 rfl rfl)))
      · skip
        refine RP_bnd (u_rf_wrong 3 (s.2.1 8) s.2) (fun y21 h4 => ?_)
        have h5 : UR F_rfb_takeFieldOf_60 A_rfb_takeFieldOf_60 s.2 y21.2 := (UR_s h4 UR_0 rfl rfl)
        exact RP_w (u_rfl_takeFieldOf_100 v1 v2 s.1 y21.2) (sl_w (fun z hz => (UR_s hz h5 rfl rfl)) (fun z hz => (UR_s hz h5 rfl rfl)))
    · skip
      exact RP_some UR_0
theorem uw_rfb_takeFieldOf_60 (v1 : Int) (v2 : Int) (s : Int × mR) : RP (whl (rfb_takeFieldOf_60 v1 v2) s) (fun z : mR => UR F_rfb_takeFieldOf_60 A_rfb_takeFieldOf_60 s.2 z) := RP_whl (I := fun q : Int × mR => UR F_rfb_takeFieldOf_60 A_rfb_takeFieldOf_60 s.2 q.2) (fun q hq => RP_w (u_rfb_takeFieldOf_60 v1 v2 q) (sl_w (fun z hz => (UR_s hz hq rfl rfl)) (fun z hz => (UR_s hz hq rfl rfl)))) UR_0
def F_rfl_takeFieldOf_55 : List Nat := [7, 8, 9, 10, 11, 12]
def A_rfl_takeFieldOf_55 : List Nat := [29, 30, 31, 32, 33]
theorem u_rfl_takeFieldOf_55 (v1 : Int) (v2 : Int) (m : mR) : RP (rfl_takeFieldOf_55 v1 v2 m) (fun z : Int × mR => UR F_rfl_takeFieldOf_55 A_rfl_takeFieldOf_55 m z.2) := by
  unfold rfl_takeFieldOf_55
  refine RP_bnd (uw_rfb_takeFieldOf_60 v1 v2 (cut (16 * v1), m)) (fun e24 h1 => ?_)
  have h2 : UR F_rfl_takeFieldOf_55 A_rfl_takeFieldOf_55 m e24 := (UR_s h1 UR_0 rfl rfl)
  exact RP_w (u_rfl_takeFieldOf_106 v1 v2 e24) (fun z hz => (UR_s hz h2 rfl rfl))
theorem u_rf_takeFieldOf (v1 : Int) (m : mR) : RP (rf_takeFieldOf v1 m) (fun z : Int × mR => UR rF_takeFieldOf rA_takeFieldOf m z.2) := by
  unfold rf_takeFieldOf
  refine RP_ite (fun h1 => ?_) (fun h1 => ?_)
  · skip
    refine RP_ite (fun h2 => ?_) (fun h2 => ?_)
    · skip
      refine RP_ite (fun h3 => ?_) (fun h3 => ?_)
      · skip
        refine RP_bnd (u_rf_wrong 4 (m.1 8) m) (fun y30 h4 => ?_)
        have h5 : UR rF_takeFieldOf rA_takeFieldOf m y30.2 := (UR_s h4 UR_0 rfl rfl)
        exact RP_w (u_rfl_takeFieldOf_55 v1 (cut ((cut (16 * v1)) + ((m.2 29) v1))) y30.2) (fun z hz => (UR_s hz h5 rfl rfl))
      · skip
        exact RP_w (u_rfl_takeFieldOf_55 v1 (cut ((cut (16 * v1)) + ((m.2 29) v1))) m) (fun z hz => (UR_s hz UR_0 rfl rfl))
    · skip
      refine RP_bnd (u_rf_bad m) (fun y33 h6 => ?_)
      have h7 : UR rF_takeFieldOf rA_takeFieldOf m y33.2 := (UR_s h6 UR_0 rfl rfl)
      exact RP_w (u_rfl_takeFieldOf_55 v1 (cut ((cut (16 * v1)) + ((m.2 29) v1))) y33.2) (fun z hz => (UR_s hz h7 rfl rfl))
  · skip
    exact RP_some UR_0
def rF_takeHeader : List Nat := [7, 8, 9, 10, 11, 12, 13, 19]
def rA_takeHeader : List Nat := [14, 15, 16, 17, 29, 30, 31, 32, 33]
def F_rfl_takeHeader_140 : List Nat := [7, 8, 9, 10, 11, 12]
def A_rfl_takeHeader_140 : List Nat := []
theorem u_rfl_takeHeader_140 (m : mR) : RP (rfl_takeHeader_140 m) (fun z : Int × mR => UR F_rfl_takeHeader_140 A_rfl_takeHeader_140 m z.2) := by
  unfold rfl_takeHeader_140
  refine RP_bnd (u_rf_need 125 m) (fun y2 h1 => ?_)
  have h2 : UR F_rfl_takeHeader_140 A_rfl_takeHeader_140 m y2.2 := (UR_s h1 UR_0 rfl rfl)
  exact RP_some h2
def F_rfl_takeHeader_133 : List Nat := [7, 8, 9, 10, 11, 12]
def A_rfl_takeHeader_133 : List Nat := []
theorem u_rfl_takeHeader_133 (v1 : Int) (m : mR) : RP (rfl_takeHeader_133 v1 m) (fun z : Int × mR => UR F_rfl_takeHeader_133 A_rfl_takeHeader_133 m z.2) := by
  unfold rfl_takeHeader_133
  refine RP_bnd (u_rf_wrong 8 v1 m) (fun y5 h1 => ?_)
  have h2 : UR F_rfl_takeHeader_133 A_rfl_takeHeader_133 m y5.2 := (UR_s h1 UR_0 rfl rfl)
  exact RP_w (u_rfl_takeHeader_140 y5.2) (fun z hz => (UR_s hz h2 rfl rfl))
def F_rfl_takeHeader_102 : List Nat := [7, 8, 9, 10, 11, 12]
def A_rfl_takeHeader_102 : List Nat := []
theorem u_rfl_takeHeader_102 (v1 : Int) (v2 : Int) (m : mR) : RP (rfl_takeHeader_102 v1 v2 m) (fun z : Int × mR => UR F_rfl_takeHeader_102 A_rfl_takeHeader_102 m z.2) := by
  unfold rfl_takeHeader_102
  refine RP_ite (fun h1 => ?_) (fun h1 => ?_)
  · skip
    refine RP_ite (fun h2 => ?_) (fun h2 => ?_)
    · skip
      refine RP_ite (fun h3 => ?_) (fun h3 => ?_)
      · skip
        exact RP_w (u_rfl_takeHeader_140 m) (fun z hz => (UR_s hz UR_0 rfl rfl))
      · skip
        exact RP_w (u_rfl_takeHeader_133 v1 m) (fun z hz => (UR_s hz UR_0 rfl rfl))
    · skip
      exact RP_w (u_rfl_takeHeader_133 v1 m) (fun z hz => (UR_s hz UR_0 rfl rfl))
  · skip
    exact RP_w (u_rfl_takeHeader_140 m) (fun z hz => (UR_s hz UR_0 rfl rfl))
def F_rfl_takeHeader_98 : List Nat := []
def A_rfl_takeHeader_98 : List Nat := []
theorem u_rfl_takeHeader_98 (v1 : Int) (v2 : Int) (u0 : Int) (m : mR) : RP (rfl_takeHeader_98 v1 v2 u0 m) (sel (fun z : (Int × mR) => UR F_rfl_takeHeader_98 A_rfl_takeHeader_98 m z.2) (fun z : mR => UR F_rfl_takeHeader_98 A_rfl_takeHeader_98 m z)) := by
  unfold rfl_takeHeader_98
  exact RP_some UR_0
def F_rfl_takeHeader_97 : List Nat := []
def A_rfl_takeHeader_97 : List Nat := []
theorem u_rfl_takeHeader_97 (v1 : Int) (v2 : Int) (m : mR) : RP (rfl_takeHeader_97 v1 v2 m) (sel (fun z : (Int × mR) => UR F_rfl_takeHeader_97 A_rfl_takeHeader_97 m z.2) (fun z : mR => UR F_rfl_takeHeader_97 A_rfl_takeHeader_97 m z)) := by
  unfold rfl_takeHeader_97
  exact RP_w (u_rfl_takeHeader_98 v1 v2 0 m) (sl_w (fun z hz => (UR_s hz UR_0 rfl rfl)) (fun z hz => (UR_s hz UR_0 rfl rfl)))
def F_rfl_takeHeader_77 : List Nat := []
def A_rfl_takeHeader_77 : List Nat := []
theorem u_rfl_takeHeader_77 (v1 : Int) (v2 : Int) (m : mR) : RP (rfl_takeHeader_77 v1 v2 m) (sel (fun z : (Int × mR) => UR F_rfl_takeHeader_77 A_rfl_takeHeader_77 m z.2) (fun z : mR => UR F_rfl_takeHeader_77 A_rfl_takeHeader_77 m z)) := by
  unfold rfl_takeHeader_77
  refine RP_ite (fun h1 => ?_) (fun h1 => ?_)
  · skip
    refine RP_ite (fun h2 => ?_) (fun h2 => ?_)
    · skip
      exact RP_w (u_rfl_takeHeader_97 v1 v2 m) (sl_w (fun z hz => (UR_s hz UR_0 rfl rfl)) (fun z hz => (UR_s hz UR_0 rfl rfl)))
    · skip
      exact RP_w (u_rfl_takeHeader_98 v1 v2 1 m) (sl_w (fun z hz => (UR_s hz UR_0 rfl rfl)) (fun z hz => (UR_s hz UR_0 rfl rfl)))
  · skip
    exact RP_w (u_rfl_takeHeader_97 v1 v2 m) (sl_w (fun z hz => (UR_s hz UR_0 rfl rfl)) (fun z hz => (UR_s hz UR_0 rfl rfl)))
def F_rfb_takeHeader_61 : List Nat := [7, 8, 9, 10, 11, 12]
def A_rfb_takeHeader_61 : List Nat := [29, 30, 31, 32, 33]
theorem u_rfb_takeHeader_61 (v1 : Int) (v2 : Int) (s : Int × mR) : RP (rfb_takeHeader_61 v1 v2 s) (sel (fun z : (Int × mR) => UR F_rfb_takeHeader_61 A_rfb_takeHeader_61 s.2 z.2) (fun z : mR => UR F_rfb_takeHeader_61 A_rfb_takeHeader_61 s.2 z)) := by
  unfold rfb_takeHeader_61
  refine RP_ite (fun h1 => ?_) (fun h1 => ?_)
  · skip
    exact RP_some UR_0
  · skip
    refine RP_ite (fun h2 => ?_) (fun h2 => ?_)
    · skip
      refine RP_bnd (u_rf_takeFieldOf v2 s.2) (fun y16 h3 => ?_)
      have h4 : UR F_rfb_takeHeader_61 A_rfb_takeHeader_61 s.2 y16.2 := (UR_s h3 UR_0 rfl rfl)
      exact RP_w (u_rfl_takeHeader_77 v1 v2 y16.2) (sl_w (fun z hz => (UR_s hz h4 rfl rfl)) (fun z hz => (UR_s hz h4 rfl rfl)))
    · skip
      exact RP_some UR_0
theorem uw_rfb_takeHeader_61 (v1 : Int) (v2 : Int) (s : Int × mR) : RP (whl (rfb_takeHeader_61 v1 v2) s) (fun z : mR => UR F_rfb_takeHeader_61 A_rfb_takeHeader_61 s.2 z) := RP_whl (I := fun q : Int × mR => UR F_rfb_takeHeader_61 A_rfb_takeHeader_61 s.2 q.2) (fun q hq => RP_w (u_rfb_takeHeader_61 v1 v2 q) (sl_w (fun z hz => (UR_s hz hq rfl rfl)) (fun z hz => (UR_s hz hq rfl rfl)))) UR_0
def F_rfl_takeHeader_59 : List Nat := [7, 8, 9, 10, 11, 12]
def A_rfl_takeHeader_59 : List Nat := [29, 30, 31, 32, 33]
theorem u_rfl_takeHeader_59 (v1 : Int) (v2 : Int) (m : mR) : RP (rfl_takeHeader_59 v1 v2 m) (fun z : Int × mR => UR F_rfl_takeHeader_59 A_rfl_takeHeader_59 m z.2) := by
  unfold rfl_takeHeader_59
  refine RP_bnd (uw_rfb_takeHeader_61 v1 v2 (1, m)) (fun e19 h1 => ?_)
  have h2 : UR F_rfl_takeHeader_59 A_rfl_takeHeader_59 m e19 := (UR_s h1 UR_0 rfl rfl)
  exact RP_w (u_rfl_takeHeader_102 v1 v2 e19) (fun z hz => (UR_s hz h2 rfl rfl))
def F_rfl_takeHeader_20 : List Nat := [7, 8, 9, 10, 11, 12, 19]
def A_rfl_takeHeader_20 : List Nat := [29, 30, 31, 32, 33]
theorem u_rfl_takeHeader_20 (v1 : Int) (u0 : Int) (m : mR) : RP (rfl_takeHeader_20 v1 u0 m) (fun z : Int × mR => UR F_rfl_takeHeader_20 A_rfl_takeHeader_20 m z.2) := by
  unfold rfl_takeHeader_20
  refine RP_ite (fun h1 => ?_) (fun h1 => ?_)
  · skip
    exact RP_some UR_0
  · skip
    refine RP_bnd (u_rf_need 123 (mO m [(19, cut ((m.1 19) + 1))] [(29, upI (m.2 29) (m.1 19) 0), (30, upI (m.2 30) (m.1 19) 0)])) (fun y23 h2 => ?_)
    have h3 : UR F_rfl_takeHeader_20 A_rfl_takeHeader_20 m y23.2 := (UR_s h2 (UR_m UR_0 rfl rfl (fun h => h)) rfl rfl)
    exact RP_w (u_rfl_takeHeader_59 v1 (m.1 19) y23.2) (fun z hz => (UR_s hz h3 rfl rfl))
def F_rfl_takeHeader_4 : List Nat := [7, 8, 9, 10, 11, 12, 13, 19]
def A_rfl_takeHeader_4 : List Nat := [14, 15, 16, 17, 29, 30, 31, 32, 33]
theorem u_rfl_takeHeader_4 (m : mR) : RP (rfl_takeHeader_4 m) (fun z : Int × mR => UR F_rfl_takeHeader_4 A_rfl_takeHeader_4 m z.2) := by
  unfold rfl_takeHeader_4
  refine RP_bnd (u_rf_newName 1 (m.1 19) 12 m) (fun y26 h1 => ?_)
  have h2 : UR F_rfl_takeHeader_4 A_rfl_takeHeader_4 m y26.2 := (UR_s h1 UR_0 rfl rfl)
  exact RP_w (u_rfl_takeHeader_20 (m.1 8) y26.1 y26.2) (fun z hz => (UR_s hz h2 rfl rfl))
theorem u_rf_takeHeader (m : mR) : RP (rf_takeHeader m) (fun z : Int × mR => UR rF_takeHeader rA_takeHeader m z.2) := by
  unfold rf_takeHeader
  refine RP_bnd (u_rf_next m) (fun y29 h1 => ?_)
  have h2 : UR rF_takeHeader rA_takeHeader m y29.2 := (UR_s h1 UR_0 rfl rfl)
  exact RP_w (u_rfl_takeHeader_4 y29.2) (fun z hz => (UR_s hz h2 rfl rfl))
def rF_oldName : List Nat := [7, 8, 9, 10, 11, 12]
def rA_oldName : List Nat := []
def F_rfl_oldName_42 : List Nat := [7, 8, 9, 10, 11, 12]
def A_rfl_oldName_42 : List Nat := []
theorem u_rfl_oldName_42 (m : mR) : RP (rfl_oldName_42 m) (fun z : Int × mR => UR F_rfl_oldName_42 A_rfl_oldName_42 m z.2) := by
  unfold rfl_oldName_42
  refine RP_ite (fun h1 => ?_) (fun h1 => ?_)
  · skip
    refine RP_bndT (fun y2 => ?_)
    refine RP_bnd (u_rf_next m) (fun y4 h2 => ?_)
    have h3 : UR F_rfl_oldName_42 A_rfl_oldName_42 m y4.2 := (UR_s h2 UR_0 rfl rfl)
    exact RP_some h3
  · skip
    exact RP_some UR_0
theorem u_rf_oldName (v1 : Int) (m : mR) : RP (rf_oldName v1 m) (fun z : Int × mR => UR rF_oldName rA_oldName m z.2) := by
  unfold rf_oldName
  refine RP_ite (fun h1 => ?_) (fun h1 => ?_)
  · skip
    refine RP_ite (fun h2 => ?_) (fun h2 => ?_)
    · skip
      refine RP_bndT (fun y9 => ?_)
      refine RP_ite (fun h3 => ?_) (fun h3 => ?_)
      · skip
        exact RP_w (u_rfl_oldName_42 m) (fun z hz => (UR_s hz UR_0 rfl rfl))
      · skip
        refine RP_bnd (u_rf_wrong 6 (m.1 8) m) (fun y12 h4 => ?_)
        have h5 : UR rF_oldName rA_oldName m y12.2 := (UR_s h4 UR_0 rfl rfl)
        exact RP_w (u_rfl_oldName_42 y12.2) (fun z hz => (UR_s hz h5 rfl rfl))
    · skip
      refine RP_bnd (u_rf_bad m) (fun y15 h6 => ?_)
      have h7 : UR rF_oldName rA_oldName m y15.2 := (UR_s h6 UR_0 rfl rfl)
      exact RP_w (u_rfl_oldName_42 y15.2) (fun z hz => (UR_s hz h7 rfl rfl))
  · skip
    exact RP_some UR_0
def rF_takeUse : List Nat := [7, 8, 9, 10, 11, 12, 13, 20]
def rA_takeUse : List Nat := [14, 15, 16, 17, 34]
def F_rfl_takeUse_37 : List Nat := [20]
def A_rfl_takeUse_37 : List Nat := [34]
theorem u_rfl_takeUse_37 (v1 : Int) (m : mR) : RP (rfl_takeUse_37 v1 m) (fun z : Int × mR => UR F_rfl_takeUse_37 A_rfl_takeUse_37 m z.2) := by
  unfold rfl_takeUse_37
  exact RP_some (UR_m UR_0 rfl rfl (fun h => h))
def F_rfl_takeUse_30 : List Nat := [7, 8, 9, 10, 11, 12, 20]
def A_rfl_takeUse_30 : List Nat := [34]
theorem u_rfl_takeUse_30 (u0 : Int) (m : mR) : RP (rfl_takeUse_30 u0 m) (fun z : Int × mR => UR F_rfl_takeUse_30 A_rfl_takeUse_30 m z.2) := by
  unfold rfl_takeUse_30
  refine RP_bnd (u_rf_need 59 m) (fun y1 h1 => ?_)
  have h2 : UR F_rfl_takeUse_30 A_rfl_takeUse_30 m y1.2 := (UR_s h1 UR_0 rfl rfl)
  exact RP_w (u_rfl_takeUse_37 u0 y1.2) (fun z hz => (UR_s hz h2 rfl rfl))
def F_rfl_takeUse_25 : List Nat := [7, 8, 9, 10, 11, 12, 20]
def A_rfl_takeUse_25 : List Nat := [34]
theorem u_rfl_takeUse_25 (m : mR) : RP (rfl_takeUse_25 m) (fun z : Int × mR => UR F_rfl_takeUse_25 A_rfl_takeUse_25 m z.2) := by
  unfold rfl_takeUse_25
  refine RP_bnd (u_rf_oldName 1 m) (fun y4 h1 => ?_)
  have h2 : UR F_rfl_takeUse_25 A_rfl_takeUse_25 m y4.2 := (UR_s h1 UR_0 rfl rfl)
  exact RP_w (u_rfl_takeUse_30 y4.1 y4.2) (fun z hz => (UR_s hz h2 rfl rfl))
def F_rfl_takeUse_15 : List Nat := [7, 8, 9, 10, 11, 12, 20]
def A_rfl_takeUse_15 : List Nat := [34]
theorem u_rfl_takeUse_15 (u0 : Int) (m : mR) : RP (rfl_takeUse_15 u0 m) (fun z : Int × mR => UR F_rfl_takeUse_15 A_rfl_takeUse_15 m z.2) := by
  unfold rfl_takeUse_15
  refine RP_ite (fun h1 => ?_) (fun h1 => ?_)
  · skip
    exact RP_some UR_0
  · skip
    refine RP_bnd (u_rf_need 58 m) (fun y8 h2 => ?_)
    have h3 : UR F_rfl_takeUse_15 A_rfl_takeUse_15 m y8.2 := (UR_s h2 UR_0 rfl rfl)
    exact RP_w (u_rfl_takeUse_25 y8.2) (fun z hz => (UR_s hz h3 rfl rfl))
def F_rfl_takeUse_4 : List Nat := [7, 8, 9, 10, 11, 12, 13, 20]
def A_rfl_takeUse_4 : List Nat := [14, 15, 16, 17, 34]
theorem u_rfl_takeUse_4 (m : mR) : RP (rfl_takeUse_4 m) (fun z : Int × mR => UR F_rfl_takeUse_4 A_rfl_takeUse_4 m z.2) := by
  unfold rfl_takeUse_4
  refine RP_bnd (u_rf_newName 2 (m.1 20) 12 m) (fun y11 h1 => ?_)
  have h2 : UR F_rfl_takeUse_4 A_rfl_takeUse_4 m y11.2 := (UR_s h1 UR_0 rfl rfl)
  exact RP_w (u_rfl_takeUse_15 y11.1 y11.2) (fun z hz => (UR_s hz h2 rfl rfl))
theorem u_rf_takeUse (m : mR) : RP (rf_takeUse m) (fun z : Int × mR => UR rF_takeUse rA_takeUse m z.2) := by
  unfold rf_takeUse
  refine RP_bnd (u_rf_next m) (fun y14 h1 => ?_)
  have h2 : UR rF_takeUse rA_takeUse m y14.2 := (UR_s h1 UR_0 rfl rfl)
  exact RP_w (u_rfl_takeUse_4 y14.2) (fun z hz => (UR_s hz h2 rfl rfl))
def rF_takeMeta : List Nat := [7, 8, 9, 10, 11, 12, 13, 21]
def rA_takeMeta : List Nat := [14, 15, 16, 17, 35]
def F_rfl_takeMeta_47 : List Nat := [21]
def A_rfl_takeMeta_47 : List Nat := []
theorem u_rfl_takeMeta_47 (m : mR) : RP (rfl_takeMeta_47 m) (fun z : Int × mR => UR F_rfl_takeMeta_47 A_rfl_takeMeta_47 m z.2) := by
  unfold rfl_takeMeta_47
  exact RP_some (UR_m UR_0 rfl rfl (fun h => h))
def F_rfl_takeMeta_40 : List Nat := [7, 8, 9, 10, 11, 12, 21]
def A_rfl_takeMeta_40 : List Nat := [35]
theorem u_rfl_takeMeta_40 (u1 : Int) (u2 : Int) (m : mR) : RP (rfl_takeMeta_40 u1 u2 m) (fun z : Int × mR => UR F_rfl_takeMeta_40 A_rfl_takeMeta_40 m z.2) := by
  unfold rfl_takeMeta_40
  refine RP_bnd (u_rf_need 59 (mO m [] [(35, upI (m.2 35) u1 u2)])) (fun y1 h1 => ?_)
  have h2 : UR F_rfl_takeMeta_40 A_rfl_takeMeta_40 m y1.2 := (UR_s h1 (UR_m UR_0 rfl rfl (fun h => h)) rfl rfl)
  exact RP_w (u_rfl_takeMeta_47 y1.2) (fun z hz => (UR_s hz h2 rfl rfl))
def F_rfl_takeMeta_25 : List Nat := [7, 8, 9, 10, 11, 12, 21]
def A_rfl_takeMeta_25 : List Nat := [35]
theorem u_rfl_takeMeta_25 (m : mR) : RP (rfl_takeMeta_25 m) (fun z : Int × mR => UR F_rfl_takeMeta_25 A_rfl_takeMeta_25 m z.2) := by
  unfold rfl_takeMeta_25
  refine RP_bnd (u_rf_number 1 64 m) (fun y4 h1 => ?_)
  have h2 : UR F_rfl_takeMeta_25 A_rfl_takeMeta_25 m y4.2 := (UR_s h1 UR_0 rfl rfl)
  exact RP_w (u_rfl_takeMeta_40 (m.1 21) y4.1 y4.2) (fun z hz => (UR_s hz h2 rfl rfl))
def F_rfl_takeMeta_15 : List Nat := [7, 8, 9, 10, 11, 12, 21]
def A_rfl_takeMeta_15 : List Nat := [35]
theorem u_rfl_takeMeta_15 (u0 : Int) (m : mR) : RP (rfl_takeMeta_15 u0 m) (fun z : Int × mR => UR F_rfl_takeMeta_15 A_rfl_takeMeta_15 m z.2) := by
  unfold rfl_takeMeta_15
  refine RP_ite (fun h1 => ?_) (fun h1 => ?_)
  · skip
    exact RP_some UR_0
  · skip
    refine RP_bnd (u_rf_need 58 m) (fun y8 h2 => ?_)
    have h3 : UR F_rfl_takeMeta_15 A_rfl_takeMeta_15 m y8.2 := (UR_s h2 UR_0 rfl rfl)
    exact RP_w (u_rfl_takeMeta_25 y8.2) (fun z hz => (UR_s hz h3 rfl rfl))
def F_rfl_takeMeta_4 : List Nat := [7, 8, 9, 10, 11, 12, 13, 21]
def A_rfl_takeMeta_4 : List Nat := [14, 15, 16, 17, 35]
theorem u_rfl_takeMeta_4 (m : mR) : RP (rfl_takeMeta_4 m) (fun z : Int × mR => UR F_rfl_takeMeta_4 A_rfl_takeMeta_4 m z.2) := by
  unfold rfl_takeMeta_4
  refine RP_bnd (u_rf_newName 3 (m.1 21) 16 m) (fun y11 h1 => ?_)
  have h2 : UR F_rfl_takeMeta_4 A_rfl_takeMeta_4 m y11.2 := (UR_s h1 UR_0 rfl rfl)
  exact RP_w (u_rfl_takeMeta_15 y11.1 y11.2) (fun z hz => (UR_s hz h2 rfl rfl))
theorem u_rf_takeMeta (m : mR) : RP (rf_takeMeta m) (fun z : Int × mR => UR rF_takeMeta rA_takeMeta m z.2) := by
  unfold rf_takeMeta
  refine RP_bnd (u_rf_next m) (fun y14 h1 => ?_)
  have h2 : UR rF_takeMeta rA_takeMeta m y14.2 := (UR_s h1 UR_0 rfl rfl)
  exact RP_w (u_rfl_takeMeta_4 y14.2) (fun z hz => (UR_s hz h2 rfl rfl))
def rF_takeArray : List Nat := [7, 8, 9, 10, 11, 12, 13, 22]
def rA_takeArray : List Nat := [14, 15, 16, 17, 36, 93]
def F_rfl_takeArray_75 : List Nat := [22]
def A_rfl_takeArray_75 : List Nat := []
theorem u_rfl_takeArray_75 (m : mR) : RP (rfl_takeArray_75 m) (fun z : Int × mR => UR F_rfl_takeArray_75 A_rfl_takeArray_75 m z.2) := by
  unfold rfl_takeArray_75
  exact RP_some (UR_m UR_0 rfl rfl (fun h => h))
def F_rfl_takeArray_69 : List Nat := [7, 8, 9, 10, 11, 12, 22]
def A_rfl_takeArray_69 : List Nat := []
theorem u_rfl_takeArray_69 (m : mR) : RP (rfl_takeArray_69 m) (fun z : Int × mR => UR F_rfl_takeArray_69 A_rfl_takeArray_69 m z.2) := by
  unfold rfl_takeArray_69
  refine RP_bnd (u_rf_need 59 m) (fun y1 h1 => ?_)
  have h2 : UR F_rfl_takeArray_69 A_rfl_takeArray_69 m y1.2 := (UR_s h1 UR_0 rfl rfl)
  exact RP_w (u_rfl_takeArray_75 y1.2) (fun z hz => (UR_s hz h2 rfl rfl))
def F_rfl_takeArray_62 : List Nat := [7, 8, 9, 10, 11, 12, 22]
def A_rfl_takeArray_62 : List Nat := [93]
theorem u_rfl_takeArray_62 (u1 : Int) (u2 : Int) (m : mR) : RP (rfl_takeArray_62 u1 u2 m) (fun z : Int × mR => UR F_rfl_takeArray_62 A_rfl_takeArray_62 m z.2) := by
  unfold rfl_takeArray_62
  refine RP_bnd (u_rf_need 93 (mO m [] [(93, upI (m.2 93) u1 u2)])) (fun y4 h1 => ?_)
  have h2 : UR F_rfl_takeArray_62 A_rfl_takeArray_62 m y4.2 := (UR_s h1 (UR_m UR_0 rfl rfl (fun h => h)) rfl rfl)
  exact RP_w (u_rfl_takeArray_69 y4.2) (fun z hz => (UR_s hz h2 rfl rfl))
def F_rfl_takeArray_47 : List Nat := [7, 8, 9, 10, 11, 12, 22]
def A_rfl_takeArray_47 : List Nat := [93]
theorem u_rfl_takeArray_47 (m : mR) : RP (rfl_takeArray_47 m) (fun z : Int × mR => UR F_rfl_takeArray_47 A_rfl_takeArray_47 m z.2) := by
  unfold rfl_takeArray_47
  refine RP_bnd (u_rf_number 1 64 m) (fun y7 h1 => ?_)
  have h2 : UR F_rfl_takeArray_47 A_rfl_takeArray_47 m y7.2 := (UR_s h1 UR_0 rfl rfl)
  exact RP_w (u_rfl_takeArray_62 (m.1 22) y7.1 y7.2) (fun z hz => (UR_s hz h2 rfl rfl))
def F_rfl_takeArray_40 : List Nat := [7, 8, 9, 10, 11, 12, 22]
def A_rfl_takeArray_40 : List Nat := [36, 93]
theorem u_rfl_takeArray_40 (u1 : Int) (u2 : Int) (m : mR) : RP (rfl_takeArray_40 u1 u2 m) (fun z : Int × mR => UR F_rfl_takeArray_40 A_rfl_takeArray_40 m z.2) := by
  unfold rfl_takeArray_40
  refine RP_bnd (u_rf_need 91 (mO m [] [(36, upI (m.2 36) u1 u2)])) (fun y10 h1 => ?_)
  have h2 : UR F_rfl_takeArray_40 A_rfl_takeArray_40 m y10.2 := (UR_s h1 (UR_m UR_0 rfl rfl (fun h => h)) rfl rfl)
  exact RP_w (u_rfl_takeArray_47 y10.2) (fun z hz => (UR_s hz h2 rfl rfl))
def F_rfl_takeArray_25 : List Nat := [7, 8, 9, 10, 11, 12, 22]
def A_rfl_takeArray_25 : List Nat := [36, 93]
theorem u_rfl_takeArray_25 (m : mR) : RP (rfl_takeArray_25 m) (fun z : Int × mR => UR F_rfl_takeArray_25 A_rfl_takeArray_25 m z.2) := by
  unfold rfl_takeArray_25
  refine RP_bnd (u_rf_number 1 64 m) (fun y13 h1 => ?_)
  have h2 : UR F_rfl_takeArray_25 A_rfl_takeArray_25 m y13.2 := (UR_s h1 UR_0 rfl rfl)
  exact RP_w (u_rfl_takeArray_40 (m.1 22) y13.1 y13.2) (fun z hz => (UR_s hz h2 rfl rfl))
def F_rfl_takeArray_15 : List Nat := [7, 8, 9, 10, 11, 12, 22]
def A_rfl_takeArray_15 : List Nat := [36, 93]
theorem u_rfl_takeArray_15 (u0 : Int) (m : mR) : RP (rfl_takeArray_15 u0 m) (fun z : Int × mR => UR F_rfl_takeArray_15 A_rfl_takeArray_15 m z.2) := by
  unfold rfl_takeArray_15
  refine RP_ite (fun h1 => ?_) (fun h1 => ?_)
  · skip
    exact RP_some UR_0
  · skip
    refine RP_bnd (u_rf_need 58 m) (fun y17 h2 => ?_)
    have h3 : UR F_rfl_takeArray_15 A_rfl_takeArray_15 m y17.2 := (UR_s h2 UR_0 rfl rfl)
    exact RP_w (u_rfl_takeArray_25 y17.2) (fun z hz => (UR_s hz h3 rfl rfl))
def F_rfl_takeArray_4 : List Nat := [7, 8, 9, 10, 11, 12, 13, 22]
def A_rfl_takeArray_4 : List Nat := [14, 15, 16, 17, 36, 93]
theorem u_rfl_takeArray_4 (m : mR) : RP (rfl_takeArray_4 m) (fun z : Int × mR => UR F_rfl_takeArray_4 A_rfl_takeArray_4 m z.2) := by
  unfold rfl_takeArray_4
  refine RP_bnd (u_rf_newName 4 (m.1 22) 8 m) (fun y20 h1 => ?_)
  have h2 : UR F_rfl_takeArray_4 A_rfl_takeArray_4 m y20.2 := (UR_s h1 UR_0 rfl rfl)
  exact RP_w (u_rfl_takeArray_15 y20.1 y20.2) (fun z hz => (UR_s hz h2 rfl rfl))
theorem u_rf_takeArray (m : mR) : RP (rf_takeArray m) (fun z : Int × mR => UR rF_takeArray rA_takeArray m z.2) := by
  unfold rf_takeArray
  refine RP_bnd (u_rf_next m) (fun y23 h1 => ?_)
  have h2 : UR rF_takeArray rA_takeArray m y23.2 := (UR_s h1 UR_0 rfl rfl)
  exact RP_w (u_rfl_takeArray_4 y23.2) (fun z hz => (UR_s hz h2 rfl rfl))
def rF_takeExtract : List Nat := [7, 8, 9, 10, 11, 12]
def rA_takeExtract : List Nat := [41, 94]
def F_rfl_takeExtract_59 : List Nat := []
def A_rfl_takeExtract_59 : List Nat := [41]
theorem u_rfl_takeExtract_59 (v1 : Int) (m : mR) : RP (rfl_takeExtract_59 v1 m) (fun z : Int × mR => UR F_rfl_takeExtract_59 A_rfl_takeExtract_59 m z.2) := by
  unfold rfl_takeExtract_59
  exact RP_some (UR_m UR_0 rfl rfl (fun h => h))
def F_rfl_takeExtract_52 : List Nat := [7, 8, 9, 10, 11, 12]
def A_rfl_takeExtract_52 : List Nat := [41, 94]
theorem u_rfl_takeExtract_52 (v1 : Int) (u1 : Int) (u2 : Int) (m : mR) : RP (rfl_takeExtract_52 v1 u1 u2 m) (fun z : Int × mR => UR F_rfl_takeExtract_52 A_rfl_takeExtract_52 m z.2) := by
  unfold rfl_takeExtract_52
  refine RP_bnd (u_rf_need 59 (mO m [] [(94, upI (m.2 94) u1 u2)])) (fun y1 h1 => ?_)
  have h2 : UR F_rfl_takeExtract_52 A_rfl_takeExtract_52 m y1.2 := (UR_s h1 (UR_m UR_0 rfl rfl (fun h => h)) rfl rfl)
  exact RP_w (u_rfl_takeExtract_59 v1 y1.2) (fun z hz => (UR_s hz h2 rfl rfl))
def F_rfl_takeExtract_32 : List Nat := [7, 8, 9, 10, 11, 12]
def A_rfl_takeExtract_32 : List Nat := [41, 94]
theorem u_rfl_takeExtract_32 (v1 : Int) (m : mR) : RP (rfl_takeExtract_32 v1 m) (fun z : Int × mR => UR F_rfl_takeExtract_32 A_rfl_takeExtract_32 m z.2) := by
  unfold rfl_takeExtract_32
  refine RP_bnd (u_rf_oldName 2 m) (fun y4 h1 => ?_)
  have h2 : UR F_rfl_takeExtract_32 A_rfl_takeExtract_32 m y4.2 := (UR_s h1 UR_0 rfl rfl)
  exact RP_w (u_rfl_takeExtract_52 v1 (cut ((cut (6 * v1)) + ((m.2 41) v1))) y4.1 y4.2) (fun z hz => (UR_s hz h2 rfl rfl))
def F_rfl_takeExtract_20 : List Nat := [7, 8, 9, 10, 11, 12]
def A_rfl_takeExtract_20 : List Nat := [41, 94]
theorem u_rfl_takeExtract_20 (v1 : Int) (m : mR) : RP (rfl_takeExtract_20 v1 m) (fun z : Int × mR => UR F_rfl_takeExtract_20 A_rfl_takeExtract_20 m z.2) := by
  unfold rfl_takeExtract_20
  refine RP_ite (fun h1 => ?_) (fun h1 => ?_)
  · skip
    refine RP_bnd (u_rf_next m) (fun y8 h2 => ?_)
    have h3 : UR F_rfl_takeExtract_20 A_rfl_takeExtract_20 m y8.2 := (UR_s h2 UR_0 rfl rfl)
    exact RP_w (u_rfl_takeExtract_32 v1 y8.2) (fun z hz => (UR_s hz h3 rfl rfl))
  · skip
    exact RP_some UR_0
theorem u_rf_takeExtract (v1 : Int) (m : mR) : RP (rf_takeExtract v1 m) (fun z : Int × mR => UR rF_takeExtract rA_takeExtract m z.2) := by
  unfold rf_takeExtract
  refine RP_ite (fun h1 => ?_) (fun h1 => ?_)
  · skip
    refine RP_bnd (u_rf_wrong 4 (m.1 8) m) (fun y12 h2 => ?_)
    have h3 : UR rF_takeExtract rA_takeExtract m y12.2 := (UR_s h2 UR_0 rfl rfl)
    exact RP_w (u_rfl_takeExtract_20 v1 y12.2) (fun z hz => (UR_s hz h3 rfl rfl))
  · skip
    exact RP_w (u_rfl_takeExtract_20 v1 m) (fun z hz => (UR_s hz UR_0 rfl rfl))
def rF_stateHere : List Nat := [7, 8, 9, 10, 11, 12, 13, 23]
def rA_stateHere : List Nat := [14, 15, 16, 17, 37, 38]
def F_rfl_stateHere_135 : List Nat := []
def A_rfl_stateHere_135 : List Nat := []
theorem u_rfl_stateHere_135 (m : mR) : RP (rfl_stateHere_135 m) (fun z : Int × mR => UR F_rfl_stateHere_135 A_rfl_stateHere_135 m z.2) := by
  unfold rfl_stateHere_135
  exact RP_some UR_0
def F_rfl_stateHere_121 : List Nat := [7, 8, 9, 10, 11, 12, 23]
def A_rfl_stateHere_121 : List Nat := []
theorem u_rfl_stateHere_121 (m : mR) : RP (rfl_stateHere_121 m) (fun z : Int × mR => UR F_rfl_stateHere_121 A_rfl_stateHere_121 m z.2) := by
  unfold rfl_stateHere_121
  refine RP_bnd (u_rf_next (mO m [(23, cut ((m.1 23) + 1))] [])) (fun y1 h1 => ?_)
  have h2 : UR F_rfl_stateHere_121 A_rfl_stateHere_121 m y1.2 := (UR_s h1 (UR_m UR_0 rfl rfl (fun h => h)) rfl rfl)
  exact RP_w (u_rfl_stateHere_135 y1.2) (fun z hz => (UR_s hz h2 rfl rfl))
def F_rfl_stateHere_80 : List Nat := [7, 8, 9, 10, 11, 12, 13, 23]
def A_rfl_stateHere_80 : List Nat := [14, 15, 16, 17, 37, 38]
theorem u_rfl_stateHere_80 (m : mR) : RP (rfl_stateHere_80 m) (fun z : Int × mR => UR F_rfl_stateHere_80 A_rfl_stateHere_80 m z.2) := by
  unfold rfl_stateHere_80
  refine RP_ite (fun h1 => ?_) (fun h1 => ?_)
  · skip
    refine RP_bnd (u_rf_enter 5 (m.1 23) (mO m [] [(37, upI (m.2 37) (m.1 23) (m.1 8)), (38, upI (m.2 38) (m.1 23) (-1))])) (fun y5 h2 => ?_)
    have h3 : UR F_rfl_stateHere_80 A_rfl_stateHere_80 m y5.2 := (UR_s h2 (UR_m UR_0 rfl rfl (fun h => h)) rfl rfl)
    exact RP_w (u_rfl_stateHere_121 y5.2) (fun z hz => (UR_s hz h3 rfl rfl))
  · skip
    exact RP_some UR_0
theorem u_rf_stateHere (m : mR) : RP (rf_stateHere m) (fun z : Int × mR => UR rF_stateHere rA_stateHere m z.2) := by
  unfold rf_stateHere
  refine RP_ite (fun h1 => ?_) (fun h1 => ?_)
  · skip
    refine RP_ite (fun h2 => ?_) (fun h2 => ?_)
    · skip
      refine RP_bndT (fun y10 => ?_)
      refine RP_ite (fun h3 => ?_) (fun h3 => ?_)
      · skip
        refine RP_bndT (fun y21 => ?_)
        refine RP_bnd (u_rf_next m) (fun y23 h4 => ?_)
        have h5 : UR rF_stateHere rA_stateHere m y23.2 := (UR_s h4 UR_0 rfl rfl)
        exact RP_some h5
      · skip
        refine RP_ite (fun h6 => ?_) (fun h6 => ?_)
        · skip
          refine RP_ite (fun h7 => ?_) (fun h7 => ?_)
          · skip
            refine RP_bnd (u_rf_wrong 4 (m.1 8) m) (fun y15 h8 => ?_)
            have h9 : UR rF_stateHere rA_stateHere m y15.2 := (UR_s h8 UR_0 rfl rfl)
            exact RP_w (u_rfl_stateHere_80 y15.2) (fun z hz => (UR_s hz h9 rfl rfl))
          · skip
            exact RP_w (u_rfl_stateHere_80 m) (fun z hz => (UR_s hz UR_0 rfl rfl))
        · skip
          refine RP_bnd (u_rf_wrong 6 (m.1 8) m) (fun y18 h10 => ?_)
          have h11 : UR rF_stateHere rA_stateHere m y18.2 := (UR_s h10 UR_0 rfl rfl)
          exact RP_w (u_rfl_stateHere_80 y18.2) (fun z hz => (UR_s hz h11 rfl rfl))
    · skip
      refine RP_bnd (u_rf_bad m) (fun y26 h12 => ?_)
      have h13 : UR rF_stateHere rA_stateHere m y26.2 := (UR_s h12 UR_0 rfl rfl)
      exact RP_some h13
  · skip
    exact RP_some UR_0
def rF_open : List Nat := [73]
def rA_open : List Nat := [76, 77, 78, 79, 80]
def F_rfl_open_72 : List Nat := [73]
def A_rfl_open_72 : List Nat := []
theorem u_rfl_open_72 (m : mR) : RP (rfl_open_72 m) (fun z : Int × mR => UR F_rfl_open_72 A_rfl_open_72 m z.2) := by
  unfold rfl_open_72
  exact RP_some (UR_m UR_0 rfl rfl (fun h => h))
def F_rfb_open_43 : List Nat := []
def A_rfb_open_43 : List Nat := [80]
theorem u_rfb_open_43 (s : Int × mR) : RP (rfb_open_43 s) (sel (fun z : (Int × mR) => UR F_rfb_open_43 A_rfb_open_43 s.2 z.2) (fun z : mR => UR F_rfb_open_43 A_rfb_open_43 s.2 z)) := by
  unfold rfb_open_43
  refine RP_ite (fun h1 => ?_) (fun h1 => ?_)
  · skip
    exact RP_some UR_0
  · skip
    exact RP_some (UR_m UR_0 rfl rfl (fun h => h))
theorem uw_rfb_open_43 (s : Int × mR) : RP (whl rfb_open_43 s) (fun z : mR => UR F_rfb_open_43 A_rfb_open_43 s.2 z) := RP_whl (I := fun q : Int × mR => UR F_rfb_open_43 A_rfb_open_43 s.2 q.2) (fun q hq => RP_w (u_rfb_open_43 q) (sl_w (fun z hz => (UR_s hz hq rfl rfl)) (fun z hz => (UR_s hz hq rfl rfl)))) UR_0
theorem u_rf_open (v1 : Int) (v2 : Int) (v3 : Int) (m : mR) : RP (rf_open v1 v2 v3 m) (fun z : Int × mR => UR rF_open rA_open m z.2) := by
  unfold rf_open
  refine RP_bnd (uw_rfb_open_43 (0, (mO m [] [(76, upI (m.2 76) (m.1 73) v1), (77, upI (m.2 77) (m.1 73) v2), (78, upI (m.2 78) (m.1 73) v3), (79, upI (m.2 79) (m.1 73) 0)]))) (fun e4 h1 => ?_)
  have h2 : UR rF_open rA_open m e4 := (UR_s h1 (UR_m UR_0 rfl rfl (fun h => h)) rfl rfl)
  exact RP_w (u_rfl_open_72 e4) (fun z hz => (UR_s hz h2 rfl rfl))
def rF_beginChoice : List Nat := [10, 11, 73, 74, 75]
def rA_beginChoice : List Nat := [76, 77, 78, 79, 80]
def F_rfl_beginChoice_54 : List Nat := [75]
def A_rfl_beginChoice_54 : List Nat := []
theorem u_rfl_beginChoice_54 (m : mR) : RP (rfl_beginChoice_54 m) (fun z : Int × mR => UR F_rfl_beginChoice_54 A_rfl_beginChoice_54 m z.2) := by
  unfold rfl_beginChoice_54
  exact RP_some (UR_m UR_0 rfl rfl (fun h => h))
def F_rfl_beginChoice_26 : List Nat := [73, 74, 75]
def A_rfl_beginChoice_26 : List Nat := [76, 77, 78, 79, 80]
theorem u_rfl_beginChoice_26 (m : mR) : RP (rfl_beginChoice_26 m) (fun z : Int × mR => UR F_rfl_beginChoice_26 A_rfl_beginChoice_26 m z.2) := by
  unfold rfl_beginChoice_26
  refine RP_ite (fun h1 => ?_) (fun h1 => ?_)
  · skip
    refine RP_bnd (u_rf_open 0 (m.1 8) 0 (mO m [(74, cut ((m.1 74) + 1))] [])) (fun y2 h2 => ?_)
    have h3 : UR F_rfl_beginChoice_26 A_rfl_beginChoice_26 m y2.2 := (UR_s h2 (UR_m UR_0 rfl rfl (fun h => h)) rfl rfl)
    exact RP_w (u_rfl_beginChoice_54 y2.2) (fun z hz => (UR_s hz h3 rfl rfl))
  · skip
    exact RP_some UR_0
theorem u_rf_beginChoice (m : mR) : RP (rf_beginChoice m) (fun z : Int × mR => UR rF_beginChoice rA_beginChoice m z.2) := by
  unfold rf_beginChoice
  refine RP_ite (fun h1 => ?_) (fun h1 => ?_)
  · skip
    refine RP_ite (fun h2 => ?_) (fun h2 => ?_)
    · skip
      refine RP_bnd (u_rf_wrong 4 (m.1 8) m) (fun y7 h3 => ?_)
      have h4 : UR rF_beginChoice rA_beginChoice m y7.2 := (UR_s h3 UR_0 rfl rfl)
      exact RP_w (u_rfl_beginChoice_26 y7.2) (fun z hz => (UR_s hz h4 rfl rfl))
    · skip
      exact RP_w (u_rfl_beginChoice_26 m) (fun z hz => (UR_s hz UR_0 rfl rfl))
  · skip
    exact RP_some UR_0
def rF_node : List Nat := [10, 11, 28]
def rA_node : List Nat := [65, 66, 67, 68]
def F_rfl_node_26 : List Nat := [28]
def A_rfl_node_26 : List Nat := [65, 66, 67, 68]
theorem u_rfl_node_26 (v1 : Int) (v2 : Int) (v3 : Int) (v4 : Int) (m : mR) : RP (rfl_node_26 v1 v2 v3 v4 m) (fun z : Int × mR => UR F_rfl_node_26 A_rfl_node_26 m z.2) := by
  unfold rfl_node_26
  refine RP_ite (fun h1 => ?_) (fun h1 => ?_)
  · skip
    exact RP_some (UR_m UR_0 rfl rfl (fun h => h))
  · skip
    exact RP_some UR_0
theorem u_rf_node (v1 : Int) (v2 : Int) (v3 : Int) (v4 : Int) (m : mR) : RP (rf_node v1 v2 v3 v4 m) (fun z : Int × mR => UR rF_node rA_node m z.2) := by
  unfold rf_node
  refine RP_ite (fun h1 => ?_) (fun h1 => ?_)
  · skip
    refine RP_ite (fun h2 => ?_) (fun h2 => ?_)
    · skip
      refine RP_bnd (u_rf_wrong 4 (m.1 8) m) (fun y4 h3 => ?_)
      have h4 : UR rF_node rA_node m y4.2 := (UR_s h3 UR_0 rfl rfl)
      exact RP_w (u_rfl_node_26 v1 v2 v3 v4 y4.2) (fun z hz => (UR_s hz h4 rfl rfl))
    · skip
      exact RP_w (u_rfl_node_26 v1 v2 v3 v4 m) (fun z hz => (UR_s hz UR_0 rfl rfl))
  · skip
    exact RP_w (u_rfl_node_26 v1 v2 v3 v4 m) (fun z hz => (UR_s hz UR_0 rfl rfl))
def rF_unit : List Nat := [69, 70, 71, 72]
def rA_unit : List Nat := []
theorem u_rf_unit (v1 : Int) (v2 : Int) (m : mR) : RP (rf_unit v1 v2 m) (fun z : Int × mR => UR rF_unit rA_unit m z.2) := by
  unfold rf_unit
  exact RP_some (UR_m UR_0 rfl rfl (fun h => h))
def rF_atom : List Nat := [69, 70, 71, 72, 75]
def rA_atom : List Nat := []
def F_rfl_atom_14 : List Nat := [75]
def A_rfl_atom_14 : List Nat := []
theorem u_rfl_atom_14 (m : mR) : RP (rfl_atom_14 m) (fun z : Int × mR => UR F_rfl_atom_14 A_rfl_atom_14 m z.2) := by
  unfold rfl_atom_14
  exact RP_some (UR_m UR_0 rfl rfl (fun h => h))
theorem u_rf_atom (v1 : Int) (v2 : Int) (m : mR) : RP (rf_atom v1 v2 m) (fun z : Int × mR => UR rF_atom rA_atom m z.2) := by
  unfold rf_atom
  refine RP_ite (fun h1 => ?_) (fun h1 => ?_)
  · skip
    refine RP_bnd (u_rf_unit v1 v2 m) (fun y2 h2 => ?_)
    have h3 : UR rF_atom rA_atom m y2.2 := (UR_s h2 UR_0 rfl rfl)
    exact RP_w (u_rfl_atom_14 y2.2) (fun z hz => (UR_s hz h3 rfl rfl))
  · skip
    exact RP_some UR_0
def rF_takeField : List Nat := [7, 8, 9, 10, 11, 12]
def rA_takeField : List Nat := []
def F_rfl_takeField_115 : List Nat := []
def A_rfl_takeField_115 : List Nat := []
theorem u_rfl_takeField_115 (v1 : Int) (v2 : Int) (v3 : Int) (m : mR) : RP (rfl_takeField_115 v1 v2 v3 m) (fun z : Int × mR => UR F_rfl_takeField_115 A_rfl_takeField_115 m z.2) := by
  unfold rfl_takeField_115
  exact RP_some UR_0
def F_rfl_takeField_102 : List Nat := [7, 8, 9, 10, 11, 12]
def A_rfl_takeField_102 : List Nat := []
theorem u_rfl_takeField_102 (v1 : Int) (v2 : Int) (v3 : Int) (m : mR) : RP (rfl_takeField_102 v1 v2 v3 m) (fun z : Int × mR => UR F_rfl_takeField_102 A_rfl_takeField_102 m z.2) := by
  unfold rfl_takeField_102
  refine RP_ite (fun h1 => ?_) (fun h1 => ?_)
  · skip
    refine RP_bnd (u_rf_next m) (fun y3 h2 => ?_)
    have h3 : UR F_rfl_takeField_102 A_rfl_takeField_102 m y3.2 := (UR_s h2 UR_0 rfl rfl)
    exact RP_w (u_rfl_takeField_115 v1 v2 v3 y3.2) (fun z hz => (UR_s hz h3 rfl rfl))
  · skip
    exact RP_some UR_0
def F_rfl_takeField_88 : List Nat := [7, 8, 9, 10, 11, 12]
def A_rfl_takeField_88 : List Nat := []
theorem u_rfl_takeField_88 (v1 : Int) (v2 : Int) (v3 : Int) (m : mR) : RP (rfl_takeField_88 v1 v2 v3 m) (fun z : Int × mR => UR F_rfl_takeField_88 A_rfl_takeField_88 m z.2) := by
  unfold rfl_takeField_88
  refine RP_ite (fun h1 => ?_) (fun h1 => ?_)
  · skip
    exact RP_w (u_rfl_takeField_102 v1 v2 v3 m) (fun z hz => (UR_s hz UR_0 rfl rfl))
  · skip
    refine RP_bnd (u_rf_wrong 6 (m.1 8) m) (fun y7 h2 => ?_)
    have h3 : UR F_rfl_takeField_88 A_rfl_takeField_88 m y7.2 := (UR_s h2 UR_0 rfl rfl)
    exact RP_w (u_rfl_takeField_102 v1 v2 v3 y7.2) (fun z hz => (UR_s hz h3 rfl rfl))
theorem u_rf_takeField (v1 : Int) (m : mR) : RP (rf_takeField v1 m) (fun z : Int × mR => UR rF_takeField rA_takeField m z.2) := by
  unfold rf_takeField
  refine RP_ite (fun h1 => ?_) (fun h1 => ?_)
  · skip
    refine RP_ite (fun h2 => ?_) (fun h2 => ?_)
    · skip
      refine RP_bndT (fun e17 => ?_)
      exact RP_w (u_rfl_takeField_88 v1 ((m.2 34) v1) e17 m) (fun z hz => (UR_s hz UR_0 rfl rfl))
    · skip
      refine RP_bnd (u_rf_bad m) (fun y20 h3 => ?_)
      have h4 : UR rF_takeField rA_takeField m y20.2 := (UR_s h3 UR_0 rfl rfl)
      exact RP_some h4
  · skip
    exact RP_some UR_0
def rF_takeName : List Nat := [7, 8, 9, 10, 11, 12, 28, 69, 70, 71, 72, 75]
def rA_takeName : List Nat := [65, 66, 67, 68]
def F_rfl_takeName_150 : List Nat := [69, 70, 71, 72, 75]
def A_rfl_takeName_150 : List Nat := []
theorem u_rfl_takeName_150 (v1 : Int) (v4 : Int) (m : mR) : RP (rfl_takeName_150 v1 v4 m) (fun z : Int × mR => UR F_rfl_takeName_150 A_rfl_takeName_150 m z.2) := by
  unfold rfl_takeName_150
  refine RP_bnd (u_rf_atom v4 v1 m) (fun y1 h1 => ?_)
  have h2 : UR F_rfl_takeName_150 A_rfl_takeName_150 m y1.2 := (UR_s h1 UR_0 rfl rfl)
  exact RP_some h2
def F_rfl_takeName_139 : List Nat := [10, 11, 28, 69, 70, 71, 72, 75]
def A_rfl_takeName_139 : List Nat := [65, 66, 67, 68]
theorem u_rfl_takeName_139 (v1 : Int) (v4 : Int) (v5 : Int) (v6 : Int) (m : mR) : RP (rfl_takeName_139 v1 v4 v5 v6 m) (fun z : Int × mR => UR F_rfl_takeName_139 A_rfl_takeName_139 m z.2) := by
  unfold rfl_takeName_139
  refine RP_bnd (u_rf_node v5 v4 v6 0 m) (fun y4 h1 => ?_)
  have h2 : UR F_rfl_takeName_139 A_rfl_takeName_139 m y4.2 := (UR_s h1 UR_0 rfl rfl)
  exact RP_w (u_rfl_takeName_150 v1 v4 y4.2) (fun z hz => (UR_s hz h2 rfl rfl))
def F_rfl_takeName_109 : List Nat := [10, 11, 28, 69, 70, 71, 72, 75]
def A_rfl_takeName_109 : List Nat := [65, 66, 67, 68]
theorem u_rfl_takeName_109 (v1 : Int) (v4 : Int) (v5 : Int) (u0 : Int) (m : mR) : RP (rfl_takeName_109 v1 v4 v5 u0 m) (fun z : Int × mR => UR F_rfl_takeName_109 A_rfl_takeName_109 m z.2) := by
  unfold rfl_takeName_109
  refine RP_ite (fun h1 => ?_) (fun h1 => ?_)
  · skip
    refine RP_bndT (fun y8 => ?_)
    exact RP_w (u_rfl_takeName_139 v1 y8 v5 u0 m) (fun z hz => (UR_s hz UR_0 rfl rfl))
  · skip
    exact RP_w (u_rfl_takeName_139 v1 v4 v5 u0 m) (fun z hz => (UR_s hz UR_0 rfl rfl))
def F_rfl_takeName_103 : List Nat := [7, 8, 9, 10, 11, 12, 28, 69, 70, 71, 72, 75]
def A_rfl_takeName_103 : List Nat := [65, 66, 67, 68]
theorem u_rfl_takeName_103 (v1 : Int) (v4 : Int) (v5 : Int) (v6 : Int) (m : mR) : RP (rfl_takeName_103 v1 v4 v5 v6 m) (fun z : Int × mR => UR F_rfl_takeName_103 A_rfl_takeName_103 m z.2) := by
  unfold rfl_takeName_103
  refine RP_bnd (u_rf_takeField v6 m) (fun y10 h1 => ?_)
  have h2 : UR F_rfl_takeName_103 A_rfl_takeName_103 m y10.2 := (UR_s h1 UR_0 rfl rfl)
  exact RP_w (u_rfl_takeName_109 v1 v4 v5 y10.1 y10.2) (fun z hz => (UR_s hz h2 rfl rfl))
def F_rfl_takeName_97 : List Nat := [7, 8, 9, 10, 11, 12, 28, 69, 70, 71, 72, 75]
def A_rfl_takeName_97 : List Nat := [65, 66, 67, 68]
theorem u_rfl_takeName_97 (v1 : Int) (v4 : Int) (v5 : Int) (v6 : Int) (m : mR) : RP (rfl_takeName_97 v1 v4 v5 v6 m) (fun z : Int × mR => UR F_rfl_takeName_97 A_rfl_takeName_97 m z.2) := by
  unfold rfl_takeName_97
  refine RP_bnd (u_rf_need 46 m) (fun y13 h1 => ?_)
  have h2 : UR F_rfl_takeName_97 A_rfl_takeName_97 m y13.2 := (UR_s h1 UR_0 rfl rfl)
  exact RP_w (u_rfl_takeName_103 v1 v4 v5 v6 y13.2) (fun z hz => (UR_s hz h2 rfl rfl))
theorem u_rf_takeName (v1 : Int) (m : mR) : RP (rf_takeName v1 m) (fun z : Int × mR => UR rF_takeName rA_takeName m z.2) := by
  unfold rf_takeName
  refine RP_bndT (fun y16 => ?_)
  refine RP_bndT (fun y18 => ?_)
  refine RP_ite (fun h1 => ?_) (fun h1 => ?_)
  · skip
    refine RP_ite (fun h2 => ?_) (fun h2 => ?_)
    · skip
      refine RP_bndT (fun y31 => ?_)
      refine RP_bnd (u_rf_next m) (fun y33 h3 => ?_)
      have h4 : UR rF_takeName rA_takeName m y33.2 := (UR_s h3 UR_0 rfl rfl)
      exact RP_w (u_rfl_takeName_139 v1 ((m.2 35) y31) 402 y31 y33.2) (fun z hz => (UR_s hz h4 rfl rfl))
    · skip
      refine RP_ite (fun h5 => ?_) (fun h5 => ?_)
      · skip
        refine RP_bndT (fun y26 => ?_)
        refine RP_bnd (u_rf_next m) (fun y28 h6 => ?_)
        have h7 : UR rF_takeName rA_takeName m y28.2 := (UR_s h6 UR_0 rfl rfl)
        exact RP_w (u_rfl_takeName_97 v1 1 401 y26 y28.2) (fun z hz => (UR_s hz h7 rfl rfl))
      · skip
        refine RP_bnd (u_rf_wrong 6 (m.1 8) m) (fun y23 h8 => ?_)
        have h9 : UR rF_takeName rA_takeName m y23.2 := (UR_s h8 UR_0 rfl rfl)
        exact RP_w (u_rfl_takeName_139 v1 1 403 0 y23.2) (fun z hz => (UR_s hz h9 rfl rfl))
  · skip
    refine RP_bnd (u_rf_next m) (fun y36 h10 => ?_)
    have h11 : UR rF_takeName rA_takeName m y36.2 := (UR_s h10 UR_0 rfl rfl)
    exact RP_w (u_rfl_takeName_139 v1 ((m.2 49) y16) 403 (y16.tmod 4) y36.2) (fun z hz => (UR_s hz h11 rfl rfl))
