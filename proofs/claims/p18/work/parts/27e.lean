def rF_takeEmit : List Nat := [7, 8, 9, 10, 11, 12, 125]
def rA_takeEmit : List Nat := [123, 124]
def F_rfl_takeEmit_148 : List Nat := [7, 8, 9, 10, 11, 12]
def A_rfl_takeEmit_148 : List Nat := []
theorem u_rfl_takeEmit_148 (m : mR) : RP (rfl_takeEmit_148 m) (fun z : Int × mR => UR F_rfl_takeEmit_148 A_rfl_takeEmit_148 m z.2) := by
  unfold rfl_takeEmit_148
  refine RP_bnd (u_rf_need 59 m) (fun y4 h1 => ?_)
  have h2 : UR F_rfl_takeEmit_148 A_rfl_takeEmit_148 m y4.2 := (UR_s h1 UR_0 rfl rfl)
  exact RP_some h2
def F_rfl_takeEmit_145 : List Nat := []
def A_rfl_takeEmit_145 : List Nat := []
theorem u_rfl_takeEmit_145 (v1 : Int) (m : mR) : RP (rfl_takeEmit_145 v1 m) (sel (fun z : (Int × mR) => UR F_rfl_takeEmit_145 A_rfl_takeEmit_145 m z.2) (sel (fun z : (mR) => UR F_rfl_takeEmit_145 A_rfl_takeEmit_145 m z) (fun z : mR => UR F_rfl_takeEmit_145 A_rfl_takeEmit_145 m z))) := by
  unfold rfl_takeEmit_145
  exact RP_some UR_0
def F_rfl_takeEmit_136 : List Nat := [7, 8, 9, 10, 11, 12]
def A_rfl_takeEmit_136 : List Nat := []
theorem u_rfl_takeEmit_136 (u0 : Int) (m : mR) : RP (rfl_takeEmit_136 u0 m) (sel (fun z : (Int × mR) => UR F_rfl_takeEmit_136 A_rfl_takeEmit_136 m z.2) (sel (fun z : (mR) => UR F_rfl_takeEmit_136 A_rfl_takeEmit_136 m z) (fun z : mR => UR F_rfl_takeEmit_136 A_rfl_takeEmit_136 m z))) := by
  unfold rfl_takeEmit_136
  refine RP_ite (fun h1 => ?_) (fun h1 => ?_)
  · skip
    exact RP_w (u_rfl_takeEmit_145 u0 m) (sl_w (fun z hz => (UR_s hz UR_0 rfl rfl)) (sl_w (fun z hz => (UR_s hz UR_0 rfl rfl)) (fun z hz => (UR_s hz UR_0 rfl rfl))))
  · skip
    refine RP_bnd (u_rf_next m) (fun y8 h2 => ?_)
    have h3 : UR F_rfl_takeEmit_136 A_rfl_takeEmit_136 m y8.2 := (UR_s h2 UR_0 rfl rfl)
    exact RP_w (u_rfl_takeEmit_145 u0 y8.2) (sl_w (fun z hz => (UR_s hz h3 rfl rfl)) (sl_w (fun z hz => (UR_s hz h3 rfl rfl)) (fun z hz => (UR_s hz h3 rfl rfl))))
def F_rfl_takeEmit_135 : List Nat := [7, 8, 9, 10, 11, 12]
def A_rfl_takeEmit_135 : List Nat := []
theorem u_rfl_takeEmit_135 (m : mR) : RP (rfl_takeEmit_135 m) (sel (fun z : (Int × mR) => UR F_rfl_takeEmit_135 A_rfl_takeEmit_135 m z.2) (sel (fun z : (mR) => UR F_rfl_takeEmit_135 A_rfl_takeEmit_135 m z) (fun z : mR => UR F_rfl_takeEmit_135 A_rfl_takeEmit_135 m z))) := by
  unfold rfl_takeEmit_135
  exact RP_w (u_rfl_takeEmit_136 0 m) (sl_w (fun z hz => (UR_s hz UR_0 rfl rfl)) (sl_w (fun z hz => (UR_s hz UR_0 rfl rfl)) (fun z hz => (UR_s hz UR_0 rfl rfl))))
def F_rfl_takeEmit_80 : List Nat := [7, 8, 9, 10, 11, 12, 125]
def A_rfl_takeEmit_80 : List Nat := [123, 124]
theorem u_rfl_takeEmit_80 (v3 : Int) (m : mR) : RP (rfl_takeEmit_80 v3 m) (sel (fun z : (Int × mR) => UR F_rfl_takeEmit_80 A_rfl_takeEmit_80 m z.2) (sel (fun z : (mR) => UR F_rfl_takeEmit_80 A_rfl_takeEmit_80 m z) (fun z : mR => UR F_rfl_takeEmit_80 A_rfl_takeEmit_80 m z))) := by
  unfold rfl_takeEmit_80
  refine RP_ite (fun h1 => ?_) (fun h1 => ?_)
  · skip
    refine RP_ite (fun h2 => ?_) (fun h2 => ?_)
    · skip
      refine RP_ite (fun h3 => ?_) (fun h3 => ?_)
      · skip
        exact RP_w (u_rfl_takeEmit_136 1 (mO m [(125, cut ((m.1 125) + 1))] [(123, upI (m.2 123) v3 (nar1 1)), (124, upI (m.2 124) (m.1 125) v3)])) (sl_w (fun z hz => (UR_s hz (UR_m UR_0 rfl rfl (fun h => h)) rfl rfl)) (sl_w (fun z hz => (UR_s hz (UR_m UR_0 rfl rfl (fun h => h)) rfl rfl)) (fun z hz => (UR_s hz (UR_m UR_0 rfl rfl (fun h => h)) rfl rfl))))
      · skip
        exact RP_w (u_rfl_takeEmit_135 (mO m [(125, cut ((m.1 125) + 1))] [(123, upI (m.2 123) v3 (nar1 1)), (124, upI (m.2 124) (m.1 125) v3)])) (sl_w (fun z hz => (UR_s hz (UR_m UR_0 rfl rfl (fun h => h)) rfl rfl)) (sl_w (fun z hz => (UR_s hz (UR_m UR_0 rfl rfl (fun h => h)) rfl rfl)) (fun z hz => (UR_s hz (UR_m UR_0 rfl rfl (fun h => h)) rfl rfl))))
    · skip
      exact RP_w (u_rfl_takeEmit_135 (mO m [(125, cut ((m.1 125) + 1))] [(123, upI (m.2 123) v3 (nar1 1)), (124, upI (m.2 124) (m.1 125) v3)])) (sl_w (fun z hz => (UR_s hz (UR_m UR_0 rfl rfl (fun h => h)) rfl rfl)) (sl_w (fun z hz => (UR_s hz (UR_m UR_0 rfl rfl (fun h => h)) rfl rfl)) (fun z hz => (UR_s hz (UR_m UR_0 rfl rfl (fun h => h)) rfl rfl))))
  · skip
    exact RP_some UR_0
def F_rfl_takeEmit_56 : List Nat := [7, 8, 9, 10, 11, 12, 125]
def A_rfl_takeEmit_56 : List Nat := [123, 124]
theorem u_rfl_takeEmit_56 (v2 : Int) (u0 : Int) (m : mR) : RP (rfl_takeEmit_56 v2 u0 m) (sel (fun z : (Int × mR) => UR F_rfl_takeEmit_56 A_rfl_takeEmit_56 m z.2) (sel (fun z : (mR) => UR F_rfl_takeEmit_56 A_rfl_takeEmit_56 m z) (fun z : mR => UR F_rfl_takeEmit_56 A_rfl_takeEmit_56 m z))) := by
  unfold rfl_takeEmit_56
  refine RP_ite (fun h1 => ?_) (fun h1 => ?_)
  · skip
    refine RP_ite (fun h2 => ?_) (fun h2 => ?_)
    · skip
      exact RP_w (u_rfl_takeEmit_80 u0 m) (sl_w (fun z hz => (UR_s hz UR_0 rfl rfl)) (sl_w (fun z hz => (UR_s hz UR_0 rfl rfl)) (fun z hz => (UR_s hz UR_0 rfl rfl))))
    · skip
      refine RP_bnd (u_rf_wrong 8 v2 m) (fun y16 h3 => ?_)
      have h4 : UR F_rfl_takeEmit_56 A_rfl_takeEmit_56 m y16.2 := (UR_s h3 UR_0 rfl rfl)
      exact RP_w (u_rfl_takeEmit_80 u0 y16.2) (sl_w (fun z hz => (UR_s hz h4 rfl rfl)) (sl_w (fun z hz => (UR_s hz h4 rfl rfl)) (fun z hz => (UR_s hz h4 rfl rfl))))
  · skip
    exact RP_w (u_rfl_takeEmit_80 u0 m) (sl_w (fun z hz => (UR_s hz UR_0 rfl rfl)) (sl_w (fun z hz => (UR_s hz UR_0 rfl rfl)) (fun z hz => (UR_s hz UR_0 rfl rfl))))
def F_rfb_takeEmit_35 : List Nat := [7, 8, 9, 10, 11, 12, 125]
def A_rfb_takeEmit_35 : List Nat := [123, 124]
theorem u_rfb_takeEmit_35 (s : Int × mR) : RP (rfb_takeEmit_35 s) (sel (fun z : (Int × mR) => UR F_rfb_takeEmit_35 A_rfb_takeEmit_35 s.2 z.2) (sel (fun z : (mR) => UR F_rfb_takeEmit_35 A_rfb_takeEmit_35 s.2 z) (fun z : mR => UR F_rfb_takeEmit_35 A_rfb_takeEmit_35 s.2 z))) := by
  unfold rfb_takeEmit_35
  refine RP_ite (fun h1 => ?_) (fun h1 => ?_)
  · skip
    exact RP_some UR_0
  · skip
    refine RP_ite (fun h2 => ?_) (fun h2 => ?_)
    · skip
      refine RP_bnd (u_rf_oldName 2 s.2) (fun y23 h3 => ?_)
      have h4 : UR F_rfb_takeEmit_35 A_rfb_takeEmit_35 s.2 y23.2 := (UR_s h3 UR_0 rfl rfl)
      exact RP_w (u_rfl_takeEmit_56 (s.2.1 8) y23.1 y23.2) (sl_w (fun z hz => (UR_s hz h4 rfl rfl)) (sl_w (fun z hz => (UR_s hz h4 rfl rfl)) (fun z hz => (UR_s hz h4 rfl rfl))))
    · skip
      exact RP_some UR_0
theorem uw_rfb_takeEmit_35 (s : Int × mR) : RP (whl rfb_takeEmit_35 s) (sel (fun z : ((mR)) => UR F_rfb_takeEmit_35 A_rfb_takeEmit_35 s.2 z) (fun z : mR => UR F_rfb_takeEmit_35 A_rfb_takeEmit_35 s.2 z)) := RP_whl (I := fun q : Int × mR => UR F_rfb_takeEmit_35 A_rfb_takeEmit_35 s.2 q.2) (fun q hq => RP_w (u_rfb_takeEmit_35 q) (sl_w (fun z hz => (UR_s hz hq rfl rfl)) (sl_w (fun z hz => (UR_s hz hq rfl rfl)) (fun z hz => (UR_s hz hq rfl rfl))))) UR_0
def F_rfl_takeEmit_28 : List Nat := [7, 8, 9, 10, 11, 12, 125]
def A_rfl_takeEmit_28 : List Nat := [123, 124]
theorem u_rfl_takeEmit_28 (m : mR) : RP (rfl_takeEmit_28 m) (fun z : Int × mR => UR F_rfl_takeEmit_28 A_rfl_takeEmit_28 m z.2) := by
  unfold rfl_takeEmit_28
  refine RP_bnd (uw_rfb_takeEmit_35 (1, (mO m [(125, 0)] []))) (RP_sl (fun e26 h1 => ?_) (fun e29 h3 => ?_))
  · skip
    have h2 : UR F_rfl_takeEmit_28 A_rfl_takeEmit_28 m e26 := (UR_s h1 (UR_m UR_0 rfl rfl (fun h => h)) rfl rfl)
    exact RP_some h2
  · skip
    have h4 : UR F_rfl_takeEmit_28 A_rfl_takeEmit_28 m e29 := (UR_s h3 (UR_m UR_0 rfl rfl (fun h => h)) rfl rfl)
    exact RP_w (u_rfl_takeEmit_148 e29) (fun z hz => (UR_s hz h4 rfl rfl))
def F_rfb_takeEmit_9 : List Nat := []
def A_rfb_takeEmit_9 : List Nat := [123]
theorem u_rfb_takeEmit_9 (s : Int × mR) : RP (rfb_takeEmit_9 s) (sel (fun z : (Int × mR) => UR F_rfb_takeEmit_9 A_rfb_takeEmit_9 s.2 z.2) (fun z : mR => UR F_rfb_takeEmit_9 A_rfb_takeEmit_9 s.2 z)) := by
  unfold rfb_takeEmit_9
  refine RP_ite (fun h1 => ?_) (fun h1 => ?_)
  · skip
    exact RP_some UR_0
  · skip
    exact RP_some (UR_m UR_0 rfl rfl (fun h => h))
theorem uw_rfb_takeEmit_9 (s : Int × mR) : RP (whl rfb_takeEmit_9 s) (fun z : mR => UR F_rfb_takeEmit_9 A_rfb_takeEmit_9 s.2 z) := RP_whl (I := fun q : Int × mR => UR F_rfb_takeEmit_9 A_rfb_takeEmit_9 s.2 q.2) (fun q hq => RP_w (u_rfb_takeEmit_9 q) (sl_w (fun z hz => (UR_s hz hq rfl rfl)) (fun z hz => (UR_s hz hq rfl rfl)))) UR_0
def F_rfl_takeEmit_7 : List Nat := [7, 8, 9, 10, 11, 12, 125]
def A_rfl_takeEmit_7 : List Nat := [123, 124]
theorem u_rfl_takeEmit_7 (m : mR) : RP (rfl_takeEmit_7 m) (fun z : Int × mR => UR F_rfl_takeEmit_7 A_rfl_takeEmit_7 m z.2) := by
  unfold rfl_takeEmit_7
  refine RP_bnd (uw_rfb_takeEmit_9 (0, m)) (fun e34 h1 => ?_)
  have h2 : UR F_rfl_takeEmit_7 A_rfl_takeEmit_7 m e34 := (UR_s h1 UR_0 rfl rfl)
  exact RP_w (u_rfl_takeEmit_28 e34) (fun z hz => (UR_s hz h2 rfl rfl))
theorem u_rf_takeEmit (m : mR) : RP (rf_takeEmit m) (fun z : Int × mR => UR rF_takeEmit rA_takeEmit m z.2) := by
  unfold rf_takeEmit
  refine RP_bnd (u_rf_need 323 m) (fun y37 h1 => ?_)
  have h2 : UR rF_takeEmit rA_takeEmit m y37.2 := (UR_s h1 UR_0 rfl rfl)
  exact RP_w (u_rfl_takeEmit_7 y37.2) (fun z hz => (UR_s hz h2 rfl rfl))
def rF_comesRound : List Nat := []
def rA_comesRound : List Nat := [126]
def F_rfl_comesRound_138 : List Nat := []
def A_rfl_comesRound_138 : List Nat := []
theorem u_rfl_comesRound_138 (v1 : Int) (m : mR) : RP (rfl_comesRound_138 v1 m) (fun z : Int × mR => UR F_rfl_comesRound_138 A_rfl_comesRound_138 m z.2) := by
  unfold rfl_comesRound_138
  exact RP_some UR_0
def F_rfl_comesRound_135 : List Nat := []
def A_rfl_comesRound_135 : List Nat := []
theorem u_rfl_comesRound_135 (v1 : Int) (v2 : Int) (m : mR) : RP (rfl_comesRound_135 v1 v2 m) (sel (fun z : (Int × mR) => UR F_rfl_comesRound_135 A_rfl_comesRound_135 m z.2) (fun z : mR => UR F_rfl_comesRound_135 A_rfl_comesRound_135 m z)) := by
  unfold rfl_comesRound_135
  exact RP_some UR_0
def F_rfl_comesRound_129 : List Nat := []
def A_rfl_comesRound_129 : List Nat := []
theorem u_rfl_comesRound_129 (v1 : Int) (v2 : Int) (v3 : Int) (m : mR) : RP (rfl_comesRound_129 v1 v2 v3 m) (sel (fun z : (Int × Int × mR) => UR F_rfl_comesRound_129 A_rfl_comesRound_129 m z.2.2) (fun z : Int × mR => UR F_rfl_comesRound_129 A_rfl_comesRound_129 m z.2)) := by
  unfold rfl_comesRound_129
  exact RP_some UR_0
def F_rfl_comesRound_123 : List Nat := []
def A_rfl_comesRound_123 : List Nat := []
theorem u_rfl_comesRound_123 (v1 : Int) (v2 : Int) (v3 : Int) (v4 : Int) (m : mR) : RP (rfl_comesRound_123 v1 v2 v3 v4 m) (sel (fun z : (Int × Int × mR) => UR F_rfl_comesRound_123 A_rfl_comesRound_123 m z.2.2) (fun z : Int × mR => UR F_rfl_comesRound_123 A_rfl_comesRound_123 m z.2)) := by
  unfold rfl_comesRound_123
  exact RP_some UR_0
def F_rfb_comesRound_81 : List Nat := []
def A_rfb_comesRound_81 : List Nat := [126]
theorem u_rfb_comesRound_81 (v1 : Int) (v3 : Int) (s : Int × Int × mR) : RP (rfb_comesRound_81 v1 v3 s) (sel (fun z : (Int × Int × mR) => UR F_rfb_comesRound_81 A_rfb_comesRound_81 s.2.2 z.2.2) (fun z : Int × mR => UR F_rfb_comesRound_81 A_rfb_comesRound_81 s.2.2 z.2)) := by
  unfold rfb_comesRound_81
  refine RP_ite (fun h1 => ?_) (fun h1 => ?_)
  · skip
    exact RP_some UR_0
  · skip
    refine RP_ite (fun h2 => ?_) (fun h2 => ?_)
    · skip
      refine RP_bndT (fun y11 => ?_)
      refine RP_ite (fun h3 => ?_) (fun h3 => ?_)
      · skip
        exact RP_w (u_rfl_comesRound_123 v1 s.1 v3 s.2.1 s.2.2) (sl_w (fun z hz => (UR_s hz UR_0 rfl rfl)) (fun z hz => (UR_s hz UR_0 rfl rfl)))
      · skip
        exact RP_w (u_rfl_comesRound_123 v1 1 v3 s.2.1 (mO s.2.2 [] [(126, upI (s.2.2.2 126) s.2.1 (nar1 1))])) (sl_w (fun z hz => (UR_s hz (UR_m UR_0 rfl rfl (fun h => h)) rfl rfl)) (fun z hz => (UR_s hz (UR_m UR_0 rfl rfl (fun h => h)) rfl rfl)))
    · skip
      exact RP_w (u_rfl_comesRound_123 v1 s.1 v3 s.2.1 s.2.2) (sl_w (fun z hz => (UR_s hz UR_0 rfl rfl)) (fun z hz => (UR_s hz UR_0 rfl rfl)))
theorem uw_rfb_comesRound_81 (v1 : Int) (v3 : Int) (s : Int × Int × mR) : RP (whl (rfb_comesRound_81 v1 v3) s) (fun z : Int × mR => UR F_rfb_comesRound_81 A_rfb_comesRound_81 s.2.2 z.2) := RP_whl (I := fun q : Int × Int × mR => UR F_rfb_comesRound_81 A_rfb_comesRound_81 s.2.2 q.2.2) (fun q hq => RP_w (u_rfb_comesRound_81 v1 v3 q) (sl_w (fun z hz => (UR_s hz hq rfl rfl)) (fun z hz => (UR_s hz hq rfl rfl)))) UR_0
def F_rfb_comesRound_49 : List Nat := []
def A_rfb_comesRound_49 : List Nat := [126]
theorem u_rfb_comesRound_49 (v1 : Int) (s : Int × Int × mR) : RP (rfb_comesRound_49 v1 s) (sel (fun z : (Int × Int × mR) => UR F_rfb_comesRound_49 A_rfb_comesRound_49 s.2.2 z.2.2) (fun z : Int × mR => UR F_rfb_comesRound_49 A_rfb_comesRound_49 s.2.2 z.2)) := by
  unfold rfb_comesRound_49
  refine RP_ite (fun h1 => ?_) (fun h1 => ?_)
  · skip
    exact RP_some UR_0
  · skip
    refine RP_ite (fun h2 => ?_) (fun h2 => ?_)
    · skip
      exact RP_w (u_rfl_comesRound_129 v1 s.1 s.2.1 s.2.2) (sl_w (fun z hz => (UR_s hz UR_0 rfl rfl)) (fun z hz => (UR_s hz UR_0 rfl rfl)))
    · skip
      refine RP_ite (fun h3 => ?_) (fun h3 => ?_)
      · skip
        refine RP_bnd (uw_rfb_comesRound_81 v1 s.2.1 (s.1, 0, s.2.2)) (fun e19 h4 => ?_)
        have h5 : UR F_rfb_comesRound_49 A_rfb_comesRound_49 s.2.2 e19.2 := (UR_s h4 UR_0 rfl rfl)
        exact RP_w (u_rfl_comesRound_129 v1 e19.1 s.2.1 e19.2) (sl_w (fun z hz => (UR_s hz h5 rfl rfl)) (fun z hz => (UR_s hz h5 rfl rfl)))
      · skip
        exact RP_w (u_rfl_comesRound_129 v1 s.1 s.2.1 s.2.2) (sl_w (fun z hz => (UR_s hz UR_0 rfl rfl)) (fun z hz => (UR_s hz UR_0 rfl rfl)))
theorem uw_rfb_comesRound_49 (v1 : Int) (s : Int × Int × mR) : RP (whl (rfb_comesRound_49 v1) s) (fun z : Int × mR => UR F_rfb_comesRound_49 A_rfb_comesRound_49 s.2.2 z.2) := RP_whl (I := fun q : Int × Int × mR => UR F_rfb_comesRound_49 A_rfb_comesRound_49 s.2.2 q.2.2) (fun q hq => RP_w (u_rfb_comesRound_49 v1 q) (sl_w (fun z hz => (UR_s hz hq rfl rfl)) (fun z hz => (UR_s hz hq rfl rfl)))) UR_0
def F_rfb_comesRound_41 : List Nat := []
def A_rfb_comesRound_41 : List Nat := [126]
theorem u_rfb_comesRound_41 (v1 : Int) (s : Int × mR) : RP (rfb_comesRound_41 v1 s) (sel (fun z : (Int × mR) => UR F_rfb_comesRound_41 A_rfb_comesRound_41 s.2 z.2) (fun z : mR => UR F_rfb_comesRound_41 A_rfb_comesRound_41 s.2 z)) := by
  unfold rfb_comesRound_41
  refine RP_ite (fun h1 => ?_) (fun h1 => ?_)
  · skip
    exact RP_some UR_0
  · skip
    refine RP_bnd (uw_rfb_comesRound_49 v1 (0, 0, s.2)) (fun e25 h2 => ?_)
    have h3 : UR F_rfb_comesRound_41 A_rfb_comesRound_41 s.2 e25.2 := (UR_s h2 UR_0 rfl rfl)
    exact RP_w (u_rfl_comesRound_135 v1 e25.1 e25.2) (sl_w (fun z hz => (UR_s hz h3 rfl rfl)) (fun z hz => (UR_s hz h3 rfl rfl)))
theorem uw_rfb_comesRound_41 (v1 : Int) (s : Int × mR) : RP (whl (rfb_comesRound_41 v1) s) (fun z : mR => UR F_rfb_comesRound_41 A_rfb_comesRound_41 s.2 z) := RP_whl (I := fun q : Int × mR => UR F_rfb_comesRound_41 A_rfb_comesRound_41 s.2 q.2) (fun q hq => RP_w (u_rfb_comesRound_41 v1 q) (sl_w (fun z hz => (UR_s hz hq rfl rfl)) (fun z hz => (UR_s hz hq rfl rfl)))) UR_0
def F_rfl_comesRound_39 : List Nat := []
def A_rfl_comesRound_39 : List Nat := [126]
theorem u_rfl_comesRound_39 (v1 : Int) (m : mR) : RP (rfl_comesRound_39 v1 m) (fun z : Int × mR => UR F_rfl_comesRound_39 A_rfl_comesRound_39 m z.2) := by
  unfold rfl_comesRound_39
  refine RP_bnd (uw_rfb_comesRound_41 v1 (1, m)) (fun e29 h1 => ?_)
  have h2 : UR F_rfl_comesRound_39 A_rfl_comesRound_39 m e29 := (UR_s h1 UR_0 rfl rfl)
  exact RP_w (u_rfl_comesRound_138 v1 e29) (fun z hz => (UR_s hz h2 rfl rfl))
def F_rfb_comesRound_13 : List Nat := []
def A_rfb_comesRound_13 : List Nat := [126]
theorem u_rfb_comesRound_13 (v1 : Int) (s : Int × mR) : RP (rfb_comesRound_13 v1 s) (sel (fun z : (Int × mR) => UR F_rfb_comesRound_13 A_rfb_comesRound_13 s.2 z.2) (fun z : mR => UR F_rfb_comesRound_13 A_rfb_comesRound_13 s.2 z)) := by
  unfold rfb_comesRound_13
  refine RP_ite (fun h1 => ?_) (fun h1 => ?_)
  · skip
    exact RP_some UR_0
  · skip
    refine RP_bndT (fun y34 => ?_)
    exact RP_some (UR_m UR_0 rfl rfl (fun h => h))
theorem uw_rfb_comesRound_13 (v1 : Int) (s : Int × mR) : RP (whl (rfb_comesRound_13 v1) s) (fun z : mR => UR F_rfb_comesRound_13 A_rfb_comesRound_13 s.2 z) := RP_whl (I := fun q : Int × mR => UR F_rfb_comesRound_13 A_rfb_comesRound_13 s.2 q.2) (fun q hq => RP_w (u_rfb_comesRound_13 v1 q) (sl_w (fun z hz => (UR_s hz hq rfl rfl)) (fun z hz => (UR_s hz hq rfl rfl)))) UR_0
theorem u_rf_comesRound (v1 : Int) (m : mR) : RP (rf_comesRound v1 m) (fun z : Int × mR => UR rF_comesRound rA_comesRound m z.2) := by
  unfold rf_comesRound
  refine RP_ite (fun h1 => ?_) (fun h1 => ?_)
  · skip
    refine RP_bnd (uw_rfb_comesRound_13 v1 (0, m)) (fun e37 h2 => ?_)
    have h3 : UR rF_comesRound rA_comesRound m e37 := (UR_s h2 UR_0 rfl rfl)
    exact RP_w (u_rfl_comesRound_39 v1 e37) (fun z hz => (UR_s hz h3 rfl rfl))
  · skip
    exact RP_some UR_0
def rF_checkStates : List Nat := [10, 11]
def rA_checkStates : List Nat := [126]
def F_rfl_checkStates_96 : List Nat := []
def A_rfl_checkStates_96 : List Nat := []
theorem u_rfl_checkStates_96 (v2 : Int) (m : mR) : RP (rfl_checkStates_96 v2 m) (sel (fun z : (Int × mR) => UR F_rfl_checkStates_96 A_rfl_checkStates_96 m z.2) (fun z : mR => UR F_rfl_checkStates_96 A_rfl_checkStates_96 m z)) := by
  unfold rfl_checkStates_96
  exact RP_some UR_0
def F_rfl_checkStates_81 : List Nat := [10, 11]
def A_rfl_checkStates_81 : List Nat := []
theorem u_rfl_checkStates_81 (v2 : Int) (u0 : Int) (m : mR) : RP (rfl_checkStates_81 v2 u0 m) (sel (fun z : (Int × mR) => UR F_rfl_checkStates_81 A_rfl_checkStates_81 m z.2) (fun z : mR => UR F_rfl_checkStates_81 A_rfl_checkStates_81 m z)) := by
  unfold rfl_checkStates_81
  refine RP_ite (fun h1 => ?_) (fun h1 => ?_)
  · skip
    exact RP_w (u_rfl_checkStates_96 v2 m) (sl_w (fun z hz => (UR_s hz UR_0 rfl rfl)) (fun z hz => (UR_s hz UR_0 rfl rfl)))
  · skip
    refine RP_bnd (u_rf_wrong 8 ((m.2 40) v2) m) (fun y4 h2 => ?_)
    have h3 : UR F_rfl_checkStates_81 A_rfl_checkStates_81 m y4.2 := (UR_s h2 UR_0 rfl rfl)
    exact RP_w (u_rfl_checkStates_96 v2 y4.2) (sl_w (fun z hz => (UR_s hz h3 rfl rfl)) (fun z hz => (UR_s hz h3 rfl rfl)))
def F_rfb_checkStates_61 : List Nat := [10, 11]
def A_rfb_checkStates_61 : List Nat := [126]
theorem u_rfb_checkStates_61 (s : Int × mR) : RP (rfb_checkStates_61 s) (sel (fun z : (Int × mR) => UR F_rfb_checkStates_61 A_rfb_checkStates_61 s.2 z.2) (fun z : mR => UR F_rfb_checkStates_61 A_rfb_checkStates_61 s.2 z)) := by
  unfold rfb_checkStates_61
  refine RP_ite (fun h1 => ?_) (fun h1 => ?_)
  · skip
    exact RP_some UR_0
  · skip
    refine RP_ite (fun h2 => ?_) (fun h2 => ?_)
    · skip
      refine RP_bnd (u_rf_comesRound s.1 s.2) (fun y10 h3 => ?_)
      have h4 : UR F_rfb_checkStates_61 A_rfb_checkStates_61 s.2 y10.2 := (UR_s h3 UR_0 rfl rfl)
      exact RP_w (u_rfl_checkStates_81 s.1 y10.1 y10.2) (sl_w (fun z hz => (UR_s hz h4 rfl rfl)) (fun z hz => (UR_s hz h4 rfl rfl)))
    · skip
      exact RP_some UR_0
theorem uw_rfb_checkStates_61 (s : Int × mR) : RP (whl rfb_checkStates_61 s) (fun z : mR => UR F_rfb_checkStates_61 A_rfb_checkStates_61 s.2 z) := RP_whl (I := fun q : Int × mR => UR F_rfb_checkStates_61 A_rfb_checkStates_61 s.2 q.2) (fun q hq => RP_w (u_rfb_checkStates_61 q) (sl_w (fun z hz => (UR_s hz hq rfl rfl)) (fun z hz => (UR_s hz hq rfl rfl)))) UR_0
def F_rfl_checkStates_59 : List Nat := [10, 11]
def A_rfl_checkStates_59 : List Nat := [126]
theorem u_rfl_checkStates_59 (m : mR) : RP (rfl_checkStates_59 m) (fun z : Int × mR => UR F_rfl_checkStates_59 A_rfl_checkStates_59 m z.2) := by
  unfold rfl_checkStates_59
  refine RP_bnd (uw_rfb_checkStates_61 (0, m)) (fun e13 h1 => ?_)
  have h2 : UR F_rfl_checkStates_59 A_rfl_checkStates_59 m e13 := (UR_s h1 UR_0 rfl rfl)
  exact RP_some h2
def F_rfl_checkStates_48 : List Nat := [10, 11]
def A_rfl_checkStates_48 : List Nat := [126]
theorem u_rfl_checkStates_48 (v1 : Int) (m : mR) : RP (rfl_checkStates_48 v1 m) (fun z : Int × mR => UR F_rfl_checkStates_48 A_rfl_checkStates_48 m z.2) := by
  unfold rfl_checkStates_48
  refine RP_ite (fun h1 => ?_) (fun h1 => ?_)
  · skip
    exact RP_w (u_rfl_checkStates_59 m) (fun z hz => (UR_s hz UR_0 rfl rfl))
  · skip
    refine RP_bnd (u_rf_wrong 6 v1 m) (fun y17 h2 => ?_)
    have h3 : UR F_rfl_checkStates_48 A_rfl_checkStates_48 m y17.2 := (UR_s h2 UR_0 rfl rfl)
    exact RP_w (u_rfl_checkStates_59 y17.2) (fun z hz => (UR_s hz h3 rfl rfl))
theorem u_rf_checkStates (m : mR) : RP (rf_checkStates m) (fun z : Int × mR => UR rF_checkStates rA_checkStates m z.2) := by
  unfold rf_checkStates
  refine RP_bndT (fun e25 => ?_)
  exact RP_w (u_rfl_checkStates_48 e25 m) (fun z hz => (UR_s hz UR_0 rfl rfl))
def rF_readsCode : List Nat := []
def rA_readsCode : List Nat := [135]
def F_rfl_readsCode_129 : List Nat := []
def A_rfl_readsCode_129 : List Nat := []
theorem u_rfl_readsCode_129 (v1 : Int) (v3 : Int) (v4 : Int) (m : mR) : RP (rfl_readsCode_129 v1 v3 v4 m) (sel (fun z : (Int × mR) => UR F_rfl_readsCode_129 A_rfl_readsCode_129 m z.2) (fun z : mR => UR F_rfl_readsCode_129 A_rfl_readsCode_129 m z)) := by
  unfold rfl_readsCode_129
  exact RP_some UR_0
def F_rfb_readsCode_3 : List Nat := []
def A_rfb_readsCode_3 : List Nat := [135]
theorem u_rfb_readsCode_3 (v1 : Int) (v3 : Int) (s : Int × mR) : RP (rfb_readsCode_3 v1 v3 s) (sel (fun z : (Int × mR) => UR F_rfb_readsCode_3 A_rfb_readsCode_3 s.2 z.2) (fun z : mR => UR F_rfb_readsCode_3 A_rfb_readsCode_3 s.2 z)) := by
  unfold rfb_readsCode_3
  refine RP_ite (fun h1 => ?_) (fun h1 => ?_)
  · skip
    exact RP_some UR_0
  · skip
    refine RP_ite (fun h2 => ?_) (fun h2 => ?_)
    · skip
      exact RP_w (u_rfl_readsCode_129 v1 v3 s.1 (mO s.2 [] [(135, upI (upI (s.2.2 135) (cut ((cut (221 * v1)) + ((s.2.2 67) s.1))) (nar1 1)) (cut ((cut ((cut (221 * v1)) + 192)) + (((s.2.2 67) s.1).tdiv 16))) (nar1 1))])) (sl_w (fun z hz => (UR_s hz (UR_m UR_0 rfl rfl (fun h => h)) rfl rfl)) (fun z hz => (UR_s hz (UR_m UR_0 rfl rfl (fun h => h)) rfl rfl)))
    · skip
      refine RP_ite (fun h3 => ?_) (fun h3 => ?_)
      · skip
        exact RP_w (u_rfl_readsCode_129 v1 v3 s.1 (mO s.2 [] [(135, upI (s.2.2 135) (cut ((cut ((cut (221 * v1)) + 192)) + ((s.2.2 67) s.1))) (nar1 1))])) (sl_w (fun z hz => (UR_s hz (UR_m UR_0 rfl rfl (fun h => h)) rfl rfl)) (fun z hz => (UR_s hz (UR_m UR_0 rfl rfl (fun h => h)) rfl rfl)))
      · skip
        refine RP_ite (fun h4 => ?_) (fun h4 => ?_)
        · skip
          exact RP_w (u_rfl_readsCode_129 v1 v3 s.1 (mO s.2 [] [(135, upI (s.2.2 135) (cut ((cut ((cut (221 * v1)) + 204)) + ((s.2.2 67) s.1))) (nar1 1))])) (sl_w (fun z hz => (UR_s hz (UR_m UR_0 rfl rfl (fun h => h)) rfl rfl)) (fun z hz => (UR_s hz (UR_m UR_0 rfl rfl (fun h => h)) rfl rfl)))
        · skip
          exact RP_w (u_rfl_readsCode_129 v1 v3 s.1 s.2) (sl_w (fun z hz => (UR_s hz UR_0 rfl rfl)) (fun z hz => (UR_s hz UR_0 rfl rfl)))
theorem uw_rfb_readsCode_3 (v1 : Int) (v3 : Int) (s : Int × mR) : RP (whl (rfb_readsCode_3 v1 v3) s) (fun z : mR => UR F_rfb_readsCode_3 A_rfb_readsCode_3 s.2 z) := RP_whl (I := fun q : Int × mR => UR F_rfb_readsCode_3 A_rfb_readsCode_3 s.2 q.2) (fun q hq => RP_w (u_rfb_readsCode_3 v1 v3 q) (sl_w (fun z hz => (UR_s hz hq rfl rfl)) (fun z hz => (UR_s hz hq rfl rfl)))) UR_0
theorem u_rf_readsCode (v1 : Int) (v2 : Int) (v3 : Int) (m : mR) : RP (rf_readsCode v1 v2 v3 m) (fun z : Int × mR => UR rF_readsCode rA_readsCode m z.2) := by
  unfold rf_readsCode
  refine RP_bnd (uw_rfb_readsCode_3 v1 v3 (v2, m)) (fun e7 h1 => ?_)
  have h2 : UR rF_readsCode rA_readsCode m e7 := (UR_s h1 UR_0 rfl rfl)
  exact RP_some h2
def rF_writesPlace : List Nat := []
def rA_writesPlace : List Nat := [135, 136]
theorem u_rf_writesPlace (v1 : Int) (v2 : Int) (m : mR) : RP (rf_writesPlace v1 v2 m) (fun z : Int × mR => UR rF_writesPlace rA_writesPlace m z.2) := by
  unfold rf_writesPlace
  refine RP_ite (fun h1 => ?_) (fun h1 => ?_)
  · skip
    exact RP_some (UR_m UR_0 rfl rfl (fun h => h))
  · skip
    exact RP_some (UR_m UR_0 rfl rfl (fun h => h))
def rF_touches : List Nat := []
def rA_touches : List Nat := [135, 136, 137]
def F_rfb_touches_209 : List Nat := []
def A_rfb_touches_209 : List Nat := [136]
theorem u_rfb_touches_209 (v3 : Int) (v4 : Int) (s : Int × mR) : RP (rfb_touches_209 v3 v4 s) (sel (fun z : (Int × mR) => UR F_rfb_touches_209 A_rfb_touches_209 s.2 z.2) (fun z : mR => UR F_rfb_touches_209 A_rfb_touches_209 s.2 z)) := by
  unfold rfb_touches_209
  refine RP_ite (fun h1 => ?_) (fun h1 => ?_)
  · skip
    exact RP_some UR_0
  · skip
    exact RP_some (UR_m UR_0 rfl rfl (fun h => h))
theorem uw_rfb_touches_209 (v3 : Int) (v4 : Int) (s : Int × mR) : RP (whl (rfb_touches_209 v3 v4) s) (fun z : mR => UR F_rfb_touches_209 A_rfb_touches_209 s.2 z) := RP_whl (I := fun q : Int × mR => UR F_rfb_touches_209 A_rfb_touches_209 s.2 q.2) (fun q hq => RP_w (u_rfb_touches_209 v3 v4 q) (sl_w (fun z hz => (UR_s hz hq rfl rfl)) (fun z hz => (UR_s hz hq rfl rfl)))) UR_0
def F_rfl_touches_184 : List Nat := []
def A_rfl_touches_184 : List Nat := [136]
theorem u_rfl_touches_184 (v2 : Int) (v3 : Int) (m : mR) : RP (rfl_touches_184 v2 v3 m) (fun z : Int × mR => UR F_rfl_touches_184 A_rfl_touches_184 m z.2) := by
  unfold rfl_touches_184
  refine RP_bnd (uw_rfb_touches_209 v3 ((m.2 104) v2) (0, (mO m [] [(136, upI (m.2 136) (cut ((cut (v3 + 192)) + ((m.2 104) v2))) (nar1 1))]))) (fun e4 h1 => ?_)
  have h2 : UR F_rfl_touches_184 A_rfl_touches_184 m e4 := (UR_s h1 (UR_m UR_0 rfl rfl (fun h => h)) rfl rfl)
  exact RP_some h2
def F_rfl_touches_159 : List Nat := []
def A_rfl_touches_159 : List Nat := [136]
theorem u_rfl_touches_159 (v2 : Int) (v3 : Int) (m : mR) : RP (rfl_touches_159 v2 v3 m) (fun z : Int × mR => UR F_rfl_touches_159 A_rfl_touches_159 m z.2) := by
  unfold rfl_touches_159
  refine RP_ite (fun h1 => ?_) (fun h1 => ?_)
  · skip
    exact RP_w (u_rfl_touches_184 v2 v3 m) (fun z hz => (UR_s hz UR_0 rfl rfl))
  · skip
    refine RP_ite (fun h2 => ?_) (fun h2 => ?_)
    · skip
      exact RP_w (u_rfl_touches_184 v2 v3 m) (fun z hz => (UR_s hz UR_0 rfl rfl))
    · skip
      exact RP_some UR_0
def F_rfl_touches_136 : List Nat := []
def A_rfl_touches_136 : List Nat := [136]
theorem u_rfl_touches_136 (v2 : Int) (v3 : Int) (m : mR) : RP (rfl_touches_136 v2 v3 m) (fun z : Int × mR => UR F_rfl_touches_136 A_rfl_touches_136 m z.2) := by
  unfold rfl_touches_136
  refine RP_ite (fun h1 => ?_) (fun h1 => ?_)
  · skip
    exact RP_w (u_rfl_touches_159 v2 v3 (mO m [] [(136, upI (m.2 136) (cut (v3 + 220)) (nar1 1))])) (fun z hz => (UR_s hz (UR_m UR_0 rfl rfl (fun h => h)) rfl rfl))
  · skip
    exact RP_w (u_rfl_touches_159 v2 v3 m) (fun z hz => (UR_s hz UR_0 rfl rfl))
def F_rfl_touches_125 : List Nat := []
def A_rfl_touches_125 : List Nat := [135, 136]
theorem u_rfl_touches_125 (v1 : Int) (v2 : Int) (v3 : Int) (m : mR) : RP (rfl_touches_125 v1 v2 v3 m) (fun z : Int × mR => UR F_rfl_touches_125 A_rfl_touches_125 m z.2) := by
  unfold rfl_touches_125
  refine RP_bnd (u_rf_writesPlace v1 ((m.2 102) v2) m) (fun y10 h1 => ?_)
  have h2 : UR F_rfl_touches_125 A_rfl_touches_125 m y10.2 := (UR_s h1 UR_0 rfl rfl)
  exact RP_w (u_rfl_touches_136 v2 v3 y10.2) (fun z hz => (UR_s hz h2 rfl rfl))
def F_rfl_touches_103 : List Nat := []
def A_rfl_touches_103 : List Nat := [135, 136]
theorem u_rfl_touches_103 (v1 : Int) (v2 : Int) (v3 : Int) (m : mR) : RP (rfl_touches_103 v1 v2 v3 m) (fun z : Int × mR => UR F_rfl_touches_103 A_rfl_touches_103 m z.2) := by
  unfold rfl_touches_103
  refine RP_ite (fun h1 => ?_) (fun h1 => ?_)
  · skip
    exact RP_w (u_rfl_touches_125 v1 v2 v3 m) (fun z hz => (UR_s hz UR_0 rfl rfl))
  · skip
    refine RP_ite (fun h2 => ?_) (fun h2 => ?_)
    · skip
      exact RP_w (u_rfl_touches_125 v1 v2 v3 m) (fun z hz => (UR_s hz UR_0 rfl rfl))
    · skip
      exact RP_w (u_rfl_touches_136 v2 v3 m) (fun z hz => (UR_s hz UR_0 rfl rfl))
def F_rfl_touches_86 : List Nat := []
def A_rfl_touches_86 : List Nat := [135, 136]
theorem u_rfl_touches_86 (v1 : Int) (v2 : Int) (v3 : Int) (m : mR) : RP (rfl_touches_86 v1 v2 v3 m) (fun z : Int × mR => UR F_rfl_touches_86 A_rfl_touches_86 m z.2) := by
  unfold rfl_touches_86
  refine RP_bnd (u_rf_readsCode v1 ((m.2 107) v2) ((m.2 108) v2) m) (fun y15 h1 => ?_)
  have h2 : UR F_rfl_touches_86 A_rfl_touches_86 m y15.2 := (UR_s h1 UR_0 rfl rfl)
  exact RP_w (u_rfl_touches_103 v1 v2 v3 y15.2) (fun z hz => (UR_s hz h2 rfl rfl))
def F_rfl_touches_64 : List Nat := []
def A_rfl_touches_64 : List Nat := [135, 136]
theorem u_rfl_touches_64 (v1 : Int) (v2 : Int) (v3 : Int) (m : mR) : RP (rfl_touches_64 v1 v2 v3 m) (fun z : Int × mR => UR F_rfl_touches_64 A_rfl_touches_64 m z.2) := by
  unfold rfl_touches_64
  refine RP_ite (fun h1 => ?_) (fun h1 => ?_)
  · skip
    exact RP_w (u_rfl_touches_86 v1 v2 v3 m) (fun z hz => (UR_s hz UR_0 rfl rfl))
  · skip
    refine RP_ite (fun h2 => ?_) (fun h2 => ?_)
    · skip
      exact RP_w (u_rfl_touches_86 v1 v2 v3 m) (fun z hz => (UR_s hz UR_0 rfl rfl))
    · skip
      exact RP_w (u_rfl_touches_103 v1 v2 v3 m) (fun z hz => (UR_s hz UR_0 rfl rfl))
def F_rfl_touches_47 : List Nat := []
def A_rfl_touches_47 : List Nat := [135, 136, 137]
theorem u_rfl_touches_47 (v1 : Int) (v2 : Int) (v3 : Int) (m : mR) : RP (rfl_touches_47 v1 v2 v3 m) (fun z : Int × mR => UR F_rfl_touches_47 A_rfl_touches_47 m z.2) := by
  unfold rfl_touches_47
  exact RP_w (u_rfl_touches_64 v1 v2 v3 (mO m [] [(137, upI (m.2 137) (cut ((cut (8 * v1)) + ((m.2 103) v2))) (nar1 1))])) (fun z hz => (UR_s hz (UR_m UR_0 rfl rfl (fun h => h)) rfl rfl))
def F_rfl_touches_30 : List Nat := []
def A_rfl_touches_30 : List Nat := [135, 136, 137]
theorem u_rfl_touches_30 (v1 : Int) (v2 : Int) (v3 : Int) (m : mR) : RP (rfl_touches_30 v1 v2 v3 m) (fun z : Int × mR => UR F_rfl_touches_30 A_rfl_touches_30 m z.2) := by
  unfold rfl_touches_30
  refine RP_bnd (u_rf_readsCode v1 ((m.2 105) v2) ((m.2 106) v2) m) (fun y20 h1 => ?_)
  have h2 : UR F_rfl_touches_30 A_rfl_touches_30 m y20.2 := (UR_s h1 UR_0 rfl rfl)
  exact RP_w (u_rfl_touches_47 v1 v2 v3 y20.2) (fun z hz => (UR_s hz h2 rfl rfl))
theorem u_rf_touches (v1 : Int) (v2 : Int) (m : mR) : RP (rf_touches v1 v2 m) (fun z : Int × mR => UR rF_touches rA_touches m z.2) := by
  unfold rf_touches
  refine RP_ite (fun h1 => ?_) (fun h1 => ?_)
  · skip
    exact RP_w (u_rfl_touches_30 v1 v2 (cut (221 * v1)) m) (fun z hz => (UR_s hz UR_0 rfl rfl))
  · skip
    refine RP_ite (fun h2 => ?_) (fun h2 => ?_)
    · skip
      exact RP_w (u_rfl_touches_30 v1 v2 (cut (221 * v1)) m) (fun z hz => (UR_s hz UR_0 rfl rfl))
    · skip
      exact RP_w (u_rfl_touches_64 v1 v2 (cut (221 * v1)) m) (fun z hz => (UR_s hz UR_0 rfl rfl))
def rF_touchesAction : List Nat := []
def rA_touchesAction : List Nat := [135, 136, 137]
def F_rfl_touchesAction_30 : List Nat := []
def A_rfl_touchesAction_30 : List Nat := []
theorem u_rfl_touchesAction_30 (v1 : Int) (v2 : Int) (v3 : Int) (m : mR) : RP (rfl_touchesAction_30 v1 v2 v3 m) (sel (fun z : (Int × mR) => UR F_rfl_touchesAction_30 A_rfl_touchesAction_30 m z.2) (fun z : mR => UR F_rfl_touchesAction_30 A_rfl_touchesAction_30 m z)) := by
  unfold rfl_touchesAction_30
  exact RP_some UR_0
def F_rfb_touchesAction_7 : List Nat := []
def A_rfb_touchesAction_7 : List Nat := [135, 136, 137]
theorem u_rfb_touchesAction_7 (v1 : Int) (v2 : Int) (s : Int × mR) : RP (rfb_touchesAction_7 v1 v2 s) (sel (fun z : (Int × mR) => UR F_rfb_touchesAction_7 A_rfb_touchesAction_7 s.2 z.2) (fun z : mR => UR F_rfb_touchesAction_7 A_rfb_touchesAction_7 s.2 z)) := by
  unfold rfb_touchesAction_7
  refine RP_ite (fun h1 => ?_) (fun h1 => ?_)
  · skip
    exact RP_some UR_0
  · skip
    refine RP_bnd (u_rf_touches v1 s.1 s.2) (fun y4 h2 => ?_)
    have h3 : UR F_rfb_touchesAction_7 A_rfb_touchesAction_7 s.2 y4.2 := (UR_s h2 UR_0 rfl rfl)
    exact RP_w (u_rfl_touchesAction_30 v1 v2 s.1 y4.2) (sl_w (fun z hz => (UR_s hz h3 rfl rfl)) (fun z hz => (UR_s hz h3 rfl rfl)))
theorem uw_rfb_touchesAction_7 (v1 : Int) (v2 : Int) (s : Int × mR) : RP (whl (rfb_touchesAction_7 v1 v2) s) (fun z : mR => UR F_rfb_touchesAction_7 A_rfb_touchesAction_7 s.2 z) := RP_whl (I := fun q : Int × mR => UR F_rfb_touchesAction_7 A_rfb_touchesAction_7 s.2 q.2) (fun q hq => RP_w (u_rfb_touchesAction_7 v1 v2 q) (sl_w (fun z hz => (UR_s hz hq rfl rfl)) (fun z hz => (UR_s hz hq rfl rfl)))) UR_0
theorem u_rf_touchesAction (v1 : Int) (v2 : Int) (m : mR) : RP (rf_touchesAction v1 v2 m) (fun z : Int × mR => UR rF_touchesAction rA_touchesAction m z.2) := by
  unfold rf_touchesAction
  refine RP_bnd (uw_rfb_touchesAction_7 v1 v2 ((m.2 109) v2, m)) (fun e7 h1 => ?_)
  have h2 : UR rF_touchesAction rA_touchesAction m e7 := (UR_s h1 UR_0 rfl rfl)
  exact RP_some h2
def rF_touchesAll : List Nat := []
def rA_touchesAll : List Nat := [135, 136, 137]
def F_rfl_touchesAll_210 : List Nat := []
def A_rfl_touchesAll_210 : List Nat := []
theorem u_rfl_touchesAll_210 (v1 : Int) (m : mR) : RP (rfl_touchesAll_210 v1 m) (sel (fun z : (Int × mR) => UR F_rfl_touchesAll_210 A_rfl_touchesAll_210 m z.2) (fun z : mR => UR F_rfl_touchesAll_210 A_rfl_touchesAll_210 m z)) := by
  unfold rfl_touchesAll_210
  exact RP_some UR_0
def F_rfl_touchesAll_199 : List Nat := []
def A_rfl_touchesAll_199 : List Nat := [135, 136, 137]
theorem u_rfl_touchesAll_199 (v1 : Int) (v2 : Int) (m : mR) : RP (rfl_touchesAll_199 v1 v2 m) (sel (fun z : (Int × mR) => UR F_rfl_touchesAll_199 A_rfl_touchesAll_199 m z.2) (fun z : mR => UR F_rfl_touchesAll_199 A_rfl_touchesAll_199 m z)) := by
  unfold rfl_touchesAll_199
  refine RP_bnd (u_rf_touchesAction v1 ((m.2 57) v2) m) (fun y6 h1 => ?_)
  have h2 : UR F_rfl_touchesAll_199 A_rfl_touchesAll_199 m y6.2 := (UR_s h1 UR_0 rfl rfl)
  exact RP_w (u_rfl_touchesAll_210 v1 y6.2) (sl_w (fun z hz => (UR_s hz h2 rfl rfl)) (fun z hz => (UR_s hz h2 rfl rfl)))
def F_rfl_touchesAll_193 : List Nat := []
def A_rfl_touchesAll_193 : List Nat := []
theorem u_rfl_touchesAll_193 (v1 : Int) (v2 : Int) (v3 : Int) (m : mR) : RP (rfl_touchesAll_193 v1 v2 v3 m) (sel (fun z : (Int × mR) => UR F_rfl_touchesAll_193 A_rfl_touchesAll_193 m z.2) (fun z : mR => UR F_rfl_touchesAll_193 A_rfl_touchesAll_193 m z)) := by
  unfold rfl_touchesAll_193
  exact RP_some UR_0
def F_rfb_touchesAll_167 : List Nat := []
def A_rfb_touchesAll_167 : List Nat := [135, 136, 137]
theorem u_rfb_touchesAll_167 (v1 : Int) (v2 : Int) (s : Int × mR) : RP (rfb_touchesAll_167 v1 v2 s) (sel (fun z : (Int × mR) => UR F_rfb_touchesAll_167 A_rfb_touchesAll_167 s.2 z.2) (fun z : mR => UR F_rfb_touchesAll_167 A_rfb_touchesAll_167 s.2 z)) := by
  unfold rfb_touchesAll_167
  refine RP_ite (fun h1 => ?_) (fun h1 => ?_)
  · skip
    exact RP_some UR_0
  · skip
    refine RP_bnd (u_rf_touchesAction v1 ((s.2.2 114) s.1) s.2) (fun y11 h2 => ?_)
    have h3 : UR F_rfb_touchesAll_167 A_rfb_touchesAll_167 s.2 y11.2 := (UR_s h2 UR_0 rfl rfl)
    exact RP_w (u_rfl_touchesAll_193 v1 v2 s.1 y11.2) (sl_w (fun z hz => (UR_s hz h3 rfl rfl)) (fun z hz => (UR_s hz h3 rfl rfl)))
theorem uw_rfb_touchesAll_167 (v1 : Int) (v2 : Int) (s : Int × mR) : RP (whl (rfb_touchesAll_167 v1 v2) s) (fun z : mR => UR F_rfb_touchesAll_167 A_rfb_touchesAll_167 s.2 z) := RP_whl (I := fun q : Int × mR => UR F_rfb_touchesAll_167 A_rfb_touchesAll_167 s.2 q.2) (fun q hq => RP_w (u_rfb_touchesAll_167 v1 v2 q) (sl_w (fun z hz => (UR_s hz hq rfl rfl)) (fun z hz => (UR_s hz hq rfl rfl)))) UR_0
def F_rfl_touchesAll_162 : List Nat := []
def A_rfl_touchesAll_162 : List Nat := [135, 136, 137]
theorem u_rfl_touchesAll_162 (v1 : Int) (v2 : Int) (m : mR) : RP (rfl_touchesAll_162 v1 v2 m) (sel (fun z : (Int × mR) => UR F_rfl_touchesAll_162 A_rfl_touchesAll_162 m z.2) (fun z : mR => UR F_rfl_touchesAll_162 A_rfl_touchesAll_162 m z)) := by
  unfold rfl_touchesAll_162
  refine RP_bnd (uw_rfb_touchesAll_167 v1 v2 (cut (8 * v2), m)) (fun e14 h1 => ?_)
  have h2 : UR F_rfl_touchesAll_162 A_rfl_touchesAll_162 m e14 := (UR_s h1 UR_0 rfl rfl)
  exact RP_w (u_rfl_touchesAll_199 v1 v2 e14) (sl_w (fun z hz => (UR_s hz h2 rfl rfl)) (fun z hz => (UR_s hz h2 rfl rfl)))
def F_rfl_touchesAll_156 : List Nat := []
def A_rfl_touchesAll_156 : List Nat := []
theorem u_rfl_touchesAll_156 (v1 : Int) (v2 : Int) (v3 : Int) (m : mR) : RP (rfl_touchesAll_156 v1 v2 v3 m) (sel (fun z : (Int × mR) => UR F_rfl_touchesAll_156 A_rfl_touchesAll_156 m z.2) (fun z : mR => UR F_rfl_touchesAll_156 A_rfl_touchesAll_156 m z)) := by
  unfold rfl_touchesAll_156
  exact RP_some UR_0
def F_rfb_touchesAll_125 : List Nat := []
def A_rfb_touchesAll_125 : List Nat := [135]
theorem u_rfb_touchesAll_125 (v1 : Int) (v2 : Int) (s : Int × mR) : RP (rfb_touchesAll_125 v1 v2 s) (sel (fun z : (Int × mR) => UR F_rfb_touchesAll_125 A_rfb_touchesAll_125 s.2 z.2) (fun z : mR => UR F_rfb_touchesAll_125 A_rfb_touchesAll_125 s.2 z)) := by
  unfold rfb_touchesAll_125
  refine RP_ite (fun h1 => ?_) (fun h1 => ?_)
  · skip
    exact RP_some UR_0
  · skip
    refine RP_bnd (u_rf_readsCode v1 ((s.2.2 110) s.1) ((s.2.2 111) s.1) s.2) (fun y19 h2 => ?_)
    have h3 : UR F_rfb_touchesAll_125 A_rfb_touchesAll_125 s.2 y19.2 := (UR_s h2 UR_0 rfl rfl)
    exact RP_w (u_rfl_touchesAll_156 v1 v2 s.1 y19.2) (sl_w (fun z hz => (UR_s hz h3 rfl rfl)) (fun z hz => (UR_s hz h3 rfl rfl)))
theorem uw_rfb_touchesAll_125 (v1 : Int) (v2 : Int) (s : Int × mR) : RP (whl (rfb_touchesAll_125 v1 v2) s) (fun z : mR => UR F_rfb_touchesAll_125 A_rfb_touchesAll_125 s.2 z) := RP_whl (I := fun q : Int × mR => UR F_rfb_touchesAll_125 A_rfb_touchesAll_125 s.2 q.2) (fun q hq => RP_w (u_rfb_touchesAll_125 v1 v2 q) (sl_w (fun z hz => (UR_s hz hq rfl rfl)) (fun z hz => (UR_s hz hq rfl rfl)))) UR_0
def F_rfb_touchesAll_53 : List Nat := []
def A_rfb_touchesAll_53 : List Nat := [135, 136, 137]
theorem u_rfb_touchesAll_53 (s : Int × mR) : RP (rfb_touchesAll_53 s) (sel (fun z : (Int × mR) => UR F_rfb_touchesAll_53 A_rfb_touchesAll_53 s.2 z.2) (fun z : mR => UR F_rfb_touchesAll_53 A_rfb_touchesAll_53 s.2 z)) := by
  unfold rfb_touchesAll_53
  refine RP_ite (fun h1 => ?_) (fun h1 => ?_)
  · skip
    exact RP_some UR_0
  · skip
    refine RP_ite (fun h2 => ?_) (fun h2 => ?_)
    · skip
      refine RP_bnd (u_rf_touches s.1 ((s.2.2 120) s.1) s.2) (fun y32 h3 => ?_)
      have h4 : UR F_rfb_touchesAll_53 A_rfb_touchesAll_53 s.2 y32.2 := (UR_s h3 UR_0 rfl rfl)
      exact RP_w (u_rfl_touchesAll_210 s.1 y32.2) (sl_w (fun z hz => (UR_s hz h4 rfl rfl)) (fun z hz => (UR_s hz h4 rfl rfl)))
    · skip
      refine RP_ite (fun h5 => ?_) (fun h5 => ?_)
      · skip
        refine RP_bnd (u_rf_readsCode s.1 ((s.2.2 121) s.1) ((s.2.2 122) s.1) s.2) (fun y29 h6 => ?_)
        have h7 : UR F_rfb_touchesAll_53 A_rfb_touchesAll_53 s.2 y29.2 := (UR_s h6 UR_0 rfl rfl)
        exact RP_w (u_rfl_touchesAll_210 s.1 y29.2) (sl_w (fun z hz => (UR_s hz h7 rfl rfl)) (fun z hz => (UR_s hz h7 rfl rfl)))
      · skip
        refine RP_bnd (uw_rfb_touchesAll_125 s.1 ((s.2.2 63) s.1) (cut (4 * ((s.2.2 63) s.1)), s.2)) (fun e26 h8 => ?_)
        have h9 : UR F_rfb_touchesAll_53 A_rfb_touchesAll_53 s.2 e26 := (UR_s h8 UR_0 rfl rfl)
        exact RP_w (u_rfl_touchesAll_162 s.1 ((s.2.2 63) s.1) e26) (sl_w (fun z hz => (UR_s hz h9 rfl rfl)) (fun z hz => (UR_s hz h9 rfl rfl)))
theorem uw_rfb_touchesAll_53 (s : Int × mR) : RP (whl rfb_touchesAll_53 s) (fun z : mR => UR F_rfb_touchesAll_53 A_rfb_touchesAll_53 s.2 z) := RP_whl (I := fun q : Int × mR => UR F_rfb_touchesAll_53 A_rfb_touchesAll_53 s.2 q.2) (fun q hq => RP_w (u_rfb_touchesAll_53 q) (sl_w (fun z hz => (UR_s hz hq rfl rfl)) (fun z hz => (UR_s hz hq rfl rfl)))) UR_0
def F_rfl_touchesAll_51 : List Nat := []
def A_rfl_touchesAll_51 : List Nat := [135, 136, 137]
theorem u_rfl_touchesAll_51 (m : mR) : RP (rfl_touchesAll_51 m) (fun z : Int × mR => UR F_rfl_touchesAll_51 A_rfl_touchesAll_51 m z.2) := by
  unfold rfl_touchesAll_51
  refine RP_bnd (uw_rfb_touchesAll_53 (0, m)) (fun e35 h1 => ?_)
  have h2 : UR F_rfl_touchesAll_51 A_rfl_touchesAll_51 m e35 := (UR_s h1 UR_0 rfl rfl)
  exact RP_some h2
def F_rfb_touchesAll_31 : List Nat := []
def A_rfb_touchesAll_31 : List Nat := [137]
theorem u_rfb_touchesAll_31 (s : Int × mR) : RP (rfb_touchesAll_31 s) (sel (fun z : (Int × mR) => UR F_rfb_touchesAll_31 A_rfb_touchesAll_31 s.2 z.2) (fun z : mR => UR F_rfb_touchesAll_31 A_rfb_touchesAll_31 s.2 z)) := by
  unfold rfb_touchesAll_31
  refine RP_ite (fun h1 => ?_) (fun h1 => ?_)
  · skip
    exact RP_some UR_0
  · skip
    exact RP_some (UR_m UR_0 rfl rfl (fun h => h))
theorem uw_rfb_touchesAll_31 (s : Int × mR) : RP (whl rfb_touchesAll_31 s) (fun z : mR => UR F_rfb_touchesAll_31 A_rfb_touchesAll_31 s.2 z) := RP_whl (I := fun q : Int × mR => UR F_rfb_touchesAll_31 A_rfb_touchesAll_31 s.2 q.2) (fun q hq => RP_w (u_rfb_touchesAll_31 q) (sl_w (fun z hz => (UR_s hz hq rfl rfl)) (fun z hz => (UR_s hz hq rfl rfl)))) UR_0
def F_rfl_touchesAll_29 : List Nat := []
def A_rfl_touchesAll_29 : List Nat := [135, 136, 137]
theorem u_rfl_touchesAll_29 (m : mR) : RP (rfl_touchesAll_29 m) (fun z : Int × mR => UR F_rfl_touchesAll_29 A_rfl_touchesAll_29 m z.2) := by
  unfold rfl_touchesAll_29
  refine RP_bnd (uw_rfb_touchesAll_31 (0, m)) (fun e40 h1 => ?_)
  have h2 : UR F_rfl_touchesAll_29 A_rfl_touchesAll_29 m e40 := (UR_s h1 UR_0 rfl rfl)
  exact RP_w (u_rfl_touchesAll_51 e40) (fun z hz => (UR_s hz h2 rfl rfl))
def F_rfb_touchesAll_2 : List Nat := []
def A_rfb_touchesAll_2 : List Nat := [135, 136]
theorem u_rfb_touchesAll_2 (s : Int × mR) : RP (rfb_touchesAll_2 s) (sel (fun z : (Int × mR) => UR F_rfb_touchesAll_2 A_rfb_touchesAll_2 s.2 z.2) (fun z : mR => UR F_rfb_touchesAll_2 A_rfb_touchesAll_2 s.2 z)) := by
  unfold rfb_touchesAll_2
  refine RP_ite (fun h1 => ?_) (fun h1 => ?_)
  · skip
    exact RP_some UR_0
  · skip
    exact RP_some (UR_m UR_0 rfl rfl (fun h => h))
theorem uw_rfb_touchesAll_2 (s : Int × mR) : RP (whl rfb_touchesAll_2 s) (fun z : mR => UR F_rfb_touchesAll_2 A_rfb_touchesAll_2 s.2 z) := RP_whl (I := fun q : Int × mR => UR F_rfb_touchesAll_2 A_rfb_touchesAll_2 s.2 q.2) (fun q hq => RP_w (u_rfb_touchesAll_2 q) (sl_w (fun z hz => (UR_s hz hq rfl rfl)) (fun z hz => (UR_s hz hq rfl rfl)))) UR_0
theorem u_rf_touchesAll (m : mR) : RP (rf_touchesAll m) (fun z : Int × mR => UR rF_touchesAll rA_touchesAll m z.2) := by
  unfold rf_touchesAll
  refine RP_bnd (uw_rfb_touchesAll_2 (0, m)) (fun e45 h1 => ?_)
  have h2 : UR rF_touchesAll rA_touchesAll m e45 := (UR_s h1 UR_0 rfl rfl)
  exact RP_w (u_rfl_touchesAll_29 e45) (fun z hz => (UR_s hz h2 rfl rfl))
def rF_lay : List Nat := [1, 128, 129, 130]
def rA_lay : List Nat := [131, 132, 133, 134, 135, 136, 137]
def F_rfl_lay_236 : List Nat := [128]
def A_rfl_lay_236 : List Nat := []
theorem u_rfl_lay_236 (m : mR) : RP (rfl_lay_236 m) (fun z : Int × mR => UR F_rfl_lay_236 A_rfl_lay_236 m z.2) := by
  unfold rfl_lay_236
  exact RP_some (UR_m UR_0 rfl rfl (fun h => h))
def F_rfl_lay_227 : List Nat := [129]
def A_rfl_lay_227 : List Nat := []
theorem u_rfl_lay_227 (v1 : Int) (v2 : Int) (v3 : Int) (v4 : Int) (u1 : Int) (m : mR) : RP (rfl_lay_227 v1 v2 v3 v4 u1 m) (sel (fun z : (Int × mR) => UR F_rfl_lay_227 A_rfl_lay_227 m z.2) (sel (fun z : (Int × mR) => UR F_rfl_lay_227 A_rfl_lay_227 m z.2) (fun z : mR => UR F_rfl_lay_227 A_rfl_lay_227 m z))) := by
  unfold rfl_lay_227
  exact RP_some (UR_m UR_0 rfl rfl (fun h => h))
def F_rfl_lay_139 : List Nat := [1, 130]
def A_rfl_lay_139 : List Nat := []
theorem u_rfl_lay_139 (v4 : Int) (m : mR) : RP (rfl_lay_139 v4 m) (fun z : Int × mR => UR F_rfl_lay_139 A_rfl_lay_139 m z.2) := by
  unfold rfl_lay_139
  exact RP_some (UR_m UR_0 rfl rfl (fun h => h))
def F_rfb_lay_112 : List Nat := [129]
def A_rfb_lay_112 : List Nat := [131, 132, 133, 134]
theorem u_rfb_lay_112 (v1 : Int) (v2 : Int) (v3 : Int) (s : Int × mR) : RP (rfb_lay_112 v1 v2 v3 s) (sel (fun z : (Int × mR) => UR F_rfb_lay_112 A_rfb_lay_112 s.2 z.2) (sel (fun z : (Int × mR) => UR F_rfb_lay_112 A_rfb_lay_112 s.2 z.2) (fun z : mR => UR F_rfb_lay_112 A_rfb_lay_112 s.2 z))) := by
  unfold rfb_lay_112
  refine RP_ite (fun h1 => ?_) (fun h1 => ?_)
  · skip
    exact RP_some UR_0
  · skip
    refine RP_bndT (fun y9 => ?_)
    refine RP_ite (fun h2 => ?_) (fun h2 => ?_)
    · skip
      refine RP_bndT (fun y12 => ?_)
      refine RP_bndT (fun y14 => ?_)
      refine RP_ite (fun h3 => ?_) (fun h3 => ?_)
      · skip
        exact RP_w (u_rfl_lay_227 v1 v2 v3 s.1 (s.2.1 129) (mO s.2 [] [(131, upI (s.2.2 131) s.1 y9), (132, upI (s.2.2 132) y9 (cut (((s.2.2 132) y9) + 1))), (133, upI (s.2.2 133) y9 (cutl (((s.2.2 133) y9) + y12))), (134, upI (s.2.2 134) y9 (cutl (((s.2.2 134) y9) + y14)))])) (sl_w (fun z hz => (UR_s hz (UR_m UR_0 rfl rfl (fun h => h)) rfl rfl)) (sl_w (fun z hz => (UR_s hz (UR_m UR_0 rfl rfl (fun h => h)) rfl rfl)) (fun z hz => (UR_s hz (UR_m UR_0 rfl rfl (fun h => h)) rfl rfl))))
      · skip
        exact RP_w (u_rfl_lay_227 v1 v2 v3 s.1 (cut (y9 + 1)) (mO s.2 [] [(131, upI (s.2.2 131) s.1 y9), (132, upI (s.2.2 132) y9 (cut (((s.2.2 132) y9) + 1))), (133, upI (s.2.2 133) y9 (cutl (((s.2.2 133) y9) + y12))), (134, upI (s.2.2 134) y9 (cutl (((s.2.2 134) y9) + y14)))])) (sl_w (fun z hz => (UR_s hz (UR_m UR_0 rfl rfl (fun h => h)) rfl rfl)) (sl_w (fun z hz => (UR_s hz (UR_m UR_0 rfl rfl (fun h => h)) rfl rfl)) (fun z hz => (UR_s hz (UR_m UR_0 rfl rfl (fun h => h)) rfl rfl))))
    · skip
      exact RP_some UR_0
theorem uw_rfb_lay_112 (v1 : Int) (v2 : Int) (v3 : Int) (s : Int × mR) : RP (whl (rfb_lay_112 v1 v2 v3) s) (sel (fun z : ((Int × mR)) => UR F_rfb_lay_112 A_rfb_lay_112 s.2 z.2) (fun z : mR => UR F_rfb_lay_112 A_rfb_lay_112 s.2 z)) := RP_whl (I := fun q : Int × mR => UR F_rfb_lay_112 A_rfb_lay_112 s.2 q.2) (fun q hq => RP_w (u_rfb_lay_112 v1 v2 v3 q) (sl_w (fun z hz => (UR_s hz hq rfl rfl)) (sl_w (fun z hz => (UR_s hz hq rfl rfl)) (fun z hz => (UR_s hz hq rfl rfl))))) UR_0
def F_rfl_lay_104 : List Nat := [1, 128, 129, 130]
def A_rfl_lay_104 : List Nat := [131, 132, 133, 134]
theorem u_rfl_lay_104 (v1 : Int) (v2 : Int) (v3 : Int) (m : mR) : RP (rfl_lay_104 v1 v2 v3 m) (fun z : Int × mR => UR F_rfl_lay_104 A_rfl_lay_104 m z.2) := by
  unfold rfl_lay_104
  refine RP_bnd (uw_rfb_lay_112 v1 v2 v3 (0, (mO m [(129, 1)] []))) (RP_sl (fun e17 h1 => ?_) (fun e21 h3 => ?_))
  · skip
    have h2 : UR F_rfl_lay_104 A_rfl_lay_104 m e17.2 := (UR_s h1 (UR_m UR_0 rfl rfl (fun h => h)) rfl rfl)
    exact RP_w (u_rfl_lay_139 e17.1 e17.2) (fun z hz => (UR_s hz h2 rfl rfl))
  · skip
    have h4 : UR F_rfl_lay_104 A_rfl_lay_104 m e21 := (UR_s h3 (UR_m UR_0 rfl rfl (fun h => h)) rfl rfl)
    exact RP_w (u_rfl_lay_236 e21) (fun z hz => (UR_s hz h4 rfl rfl))
def F_rfb_lay_67 : List Nat := []
def A_rfb_lay_67 : List Nat := [132, 133, 134]
theorem u_rfb_lay_67 (v1 : Int) (v2 : Int) (v3 : Int) (s : Int × mR) : RP (rfb_lay_67 v1 v2 v3 s) (sel (fun z : (Int × mR) => UR F_rfb_lay_67 A_rfb_lay_67 s.2 z.2) (fun z : mR => UR F_rfb_lay_67 A_rfb_lay_67 s.2 z)) := by
  unfold rfb_lay_67
  refine RP_ite (fun h1 => ?_) (fun h1 => ?_)
  · skip
    exact RP_some UR_0
  · skip
    exact RP_some (UR_m UR_0 rfl rfl (fun h => h))
theorem uw_rfb_lay_67 (v1 : Int) (v2 : Int) (v3 : Int) (s : Int × mR) : RP (whl (rfb_lay_67 v1 v2 v3) s) (fun z : mR => UR F_rfb_lay_67 A_rfb_lay_67 s.2 z) := RP_whl (I := fun q : Int × mR => UR F_rfb_lay_67 A_rfb_lay_67 s.2 q.2) (fun q hq => RP_w (u_rfb_lay_67 v1 v2 v3 q) (sl_w (fun z hz => (UR_s hz hq rfl rfl)) (fun z hz => (UR_s hz hq rfl rfl)))) UR_0
def F_rfl_lay_64 : List Nat := [1, 128, 129, 130]
def A_rfl_lay_64 : List Nat := [131, 132, 133, 134]
theorem u_rfl_lay_64 (v1 : Int) (v2 : Int) (v3 : Int) (m : mR) : RP (rfl_lay_64 v1 v2 v3 m) (fun z : Int × mR => UR F_rfl_lay_64 A_rfl_lay_64 m z.2) := by
  unfold rfl_lay_64
  refine RP_bnd (uw_rfb_lay_67 v1 v2 v3 (0, m)) (fun e26 h1 => ?_)
  have h2 : UR F_rfl_lay_64 A_rfl_lay_64 m e26 := (UR_s h1 UR_0 rfl rfl)
  exact RP_w (u_rfl_lay_104 v1 v2 v3 e26) (fun z hz => (UR_s hz h2 rfl rfl))
def F_rfl_lay_43 : List Nat := [1, 128, 129, 130]
def A_rfl_lay_43 : List Nat := [131, 132, 133, 134, 135, 136, 137]
theorem u_rfl_lay_43 (v1 : Int) (v2 : Int) (v3 : Int) (u1 : Int) (m : mR) : RP (rfl_lay_43 v1 v2 v3 u1 m) (fun z : Int × mR => UR F_rfl_lay_43 A_rfl_lay_43 m z.2) := by
  unfold rfl_lay_43
  refine RP_ite (fun h1 => ?_) (fun h1 => ?_)
  · skip
    refine RP_bnd (u_rf_touchesAll (mO m [(1, u1), (130, (-1))] [])) (fun y30 h2 => ?_)
    have h3 : UR F_rfl_lay_43 A_rfl_lay_43 m y30.2 := (UR_s h2 (UR_m UR_0 rfl rfl (fun h => h)) rfl rfl)
    exact RP_w (u_rfl_lay_64 v1 v2 v3 y30.2) (fun z hz => (UR_s hz h3 rfl rfl))
  · skip
    exact RP_some (UR_m UR_0 rfl rfl (fun h => h))
def F_rfl_lay_38 : List Nat := [1, 128, 129, 130]
def A_rfl_lay_38 : List Nat := [131, 132, 133, 134, 135, 136, 137]
theorem u_rfl_lay_38 (v1 : Int) (v2 : Int) (v3 : Int) (m : mR) : RP (rfl_lay_38 v1 v2 v3 m) (fun z : Int × mR => UR F_rfl_lay_38 A_rfl_lay_38 m z.2) := by
  unfold rfl_lay_38
  exact RP_w (u_rfl_lay_43 v1 v2 v3 2 m) (fun z hz => (UR_s hz UR_0 rfl rfl))
def F_rfl_lay_15 : List Nat := [1, 128, 129, 130]
def A_rfl_lay_15 : List Nat := [131, 132, 133, 134, 135, 136, 137]
theorem u_rfl_lay_15 (v1 : Int) (v2 : Int) (v3 : Int) (m : mR) : RP (rfl_lay_15 v1 v2 v3 m) (fun z : Int × mR => UR F_rfl_lay_15 A_rfl_lay_15 m z.2) := by
  unfold rfl_lay_15
  exact RP_w (u_rfl_lay_43 v1 v2 v3 1 m) (fun z hz => (UR_s hz UR_0 rfl rfl))
theorem u_rf_lay (v1 : Int) (v2 : Int) (v3 : Int) (m : mR) : RP (rf_lay v1 v2 v3 m) (fun z : Int × mR => UR rF_lay rA_lay m z.2) := by
  unfold rf_lay
  refine RP_ite (fun h1 => ?_) (fun h1 => ?_)
  · skip
    exact RP_w (u_rfl_lay_15 v1 v2 v3 m) (fun z hz => (UR_s hz UR_0 rfl rfl))
  · skip
    refine RP_ite (fun h2 => ?_) (fun h2 => ?_)
    · skip
      refine RP_ite (fun h3 => ?_) (fun h3 => ?_)
      · skip
        exact RP_w (u_rfl_lay_38 v1 v2 v3 m) (fun z hz => (UR_s hz UR_0 rfl rfl))
      · skip
        refine RP_ite (fun h4 => ?_) (fun h4 => ?_)
        · skip
          exact RP_w (u_rfl_lay_38 v1 v2 v3 m) (fun z hz => (UR_s hz UR_0 rfl rfl))
        · skip
          refine RP_ite (fun h5 => ?_) (fun h5 => ?_)
          · skip
            exact RP_w (u_rfl_lay_38 v1 v2 v3 m) (fun z hz => (UR_s hz UR_0 rfl rfl))
          · skip
            refine RP_ite (fun h6 => ?_) (fun h6 => ?_)
            · skip
              exact RP_w (u_rfl_lay_43 v1 v2 v3 0 m) (fun z hz => (UR_s hz UR_0 rfl rfl))
            · skip
              exact RP_w (u_rfl_lay_38 v1 v2 v3 m) (fun z hz => (UR_s hz UR_0 rfl rfl))
    · skip
      exact RP_w (u_rfl_lay_15 v1 v2 v3 m) (fun z hz => (UR_s hz UR_0 rfl rfl))
