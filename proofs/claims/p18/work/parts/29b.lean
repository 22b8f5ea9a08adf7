def kF_ss_circling : List Nat := []
def kA_ss_circling : List Nat := [38]
def F_kfl_ss_circling_137 : List Nat := []
def A_kfl_ss_circling_137 : List Nat := []
theorem u_kfl_ss_circling_137 (v1 : Int) (m : mR) : RP (kfl_ss_circling_137 v1 m) (fun z : Int × mR => fr F_kfl_ss_circling_137 A_kfl_ss_circling_137 m z.2) := by
  unfold kfl_ss_circling_137
  exact RP_some fr_0
def F_kfl_ss_circling_104 : List Nat := []
def A_kfl_ss_circling_104 : List Nat := []
theorem u_kfl_ss_circling_104 (m : mR) : RP (kfl_ss_circling_104 m) (fun z : Int × mR => fr F_kfl_ss_circling_104 A_kfl_ss_circling_104 m z.2) := by
  unfold kfl_ss_circling_104
  refine RP_bndT (RP_slT (fun e8 => ?_) (fun e11 => ?_))
  · skip
    exact RP_w (u_kfl_ss_circling_137 e8 m) (fun z hz => (fr_s hz fr_0 rfl rfl))
  · skip
    exact RP_some fr_0
def F_kfl_ss_circling_98 : List Nat := []
def A_kfl_ss_circling_98 : List Nat := []
theorem u_kfl_ss_circling_98 (v1 : Int) (m : mR) : RP (kfl_ss_circling_98 v1 m) (sel (fun z : (Int × mR) => fr F_kfl_ss_circling_98 A_kfl_ss_circling_98 m z.2) (fun z : mR => fr F_kfl_ss_circling_98 A_kfl_ss_circling_98 m z)) := by
  unfold kfl_ss_circling_98
  exact RP_some fr_0
def F_kfl_ss_circling_90 : List Nat := []
def A_kfl_ss_circling_90 : List Nat := [38]
theorem u_kfl_ss_circling_90 (v1 : Int) (v2 : Int) (u1 : Int) (u2 : Int) (u3 : Int) (m : mR) : RP (kfl_ss_circling_90 v1 v2 u1 u2 u3 m) (sel (fun z : (Int × mR) => fr F_kfl_ss_circling_90 A_kfl_ss_circling_90 m z.2) (fun z : mR => fr F_kfl_ss_circling_90 A_kfl_ss_circling_90 m z)) := by
  unfold kfl_ss_circling_90
  exact RP_some (fr_m fr_0 rfl rfl)
def F_kfb_ss_circling_52 : List Nat := []
def A_kfb_ss_circling_52 : List Nat := [38]
theorem u_kfb_ss_circling_52 (v1 : Int) (s : Int × mR) : RP (kfb_ss_circling_52 v1 s) (sel (fun z : (Int × mR) => fr F_kfb_ss_circling_52 A_kfb_ss_circling_52 s.2 z.2) (fun z : mR => fr F_kfb_ss_circling_52 A_kfb_ss_circling_52 s.2 z)) := by
  unfold kfb_ss_circling_52
  refine RP_ite (fun h1 => ?_) (fun h1 => ?_)
  · skip
    exact RP_some fr_0
  · skip
    refine RP_ite (fun h2 => ?_) (fun h2 => ?_)
    · skip
      exact RP_w (u_kfl_ss_circling_90 v1 s.1 s.1 ((s.2.2 38) s.1) 0 s.2) (sl_w (fun z hz => (fr_s hz fr_0 rfl rfl)) (fun z hz => (fr_s hz fr_0 rfl rfl)))
    · skip
      exact RP_w (u_kfl_ss_circling_90 v1 s.1 s.1 ((s.2.2 38) s.1) ((s.2.2 38) v1) s.2) (sl_w (fun z hz => (fr_s hz fr_0 rfl rfl)) (fun z hz => (fr_s hz fr_0 rfl rfl)))
theorem uw_kfb_ss_circling_52 (v1 : Int) (s : Int × mR) : RP (whl (kfb_ss_circling_52 v1) s) (fun z : mR => fr F_kfb_ss_circling_52 A_kfb_ss_circling_52 s.2 z) := RP_whl (I := fun q : Int × mR => fr F_kfb_ss_circling_52 A_kfb_ss_circling_52 s.2 q.2) (fun q hq => RP_w (u_kfb_ss_circling_52 v1 q) (sl_w (fun z hz => (fr_s hz hq rfl rfl)) (fun z hz => (fr_s hz hq rfl rfl)))) fr_0
def F_kfb_ss_circling_42 : List Nat := []
def A_kfb_ss_circling_42 : List Nat := [38]
theorem u_kfb_ss_circling_42 (s : Int × mR) : RP (kfb_ss_circling_42 s) (sel (fun z : (Int × mR) => fr F_kfb_ss_circling_42 A_kfb_ss_circling_42 s.2 z.2) (fun z : mR => fr F_kfb_ss_circling_42 A_kfb_ss_circling_42 s.2 z)) := by
  unfold kfb_ss_circling_42
  refine RP_ite (fun h1 => ?_) (fun h1 => ?_)
  · skip
    exact RP_some fr_0
  · skip
    refine RP_bnd (uw_kfb_ss_circling_52 s.1 (0, s.2)) (fun e18 h2 => ?_)
    have h3 : fr F_kfb_ss_circling_42 A_kfb_ss_circling_42 s.2 e18 := (fr_s h2 fr_0 rfl rfl)
    exact RP_w (u_kfl_ss_circling_98 s.1 e18) (sl_w (fun z hz => (fr_s hz h3 rfl rfl)) (fun z hz => (fr_s hz h3 rfl rfl)))
theorem uw_kfb_ss_circling_42 (s : Int × mR) : RP (whl kfb_ss_circling_42 s) (fun z : mR => fr F_kfb_ss_circling_42 A_kfb_ss_circling_42 s.2 z) := RP_whl (I := fun q : Int × mR => fr F_kfb_ss_circling_42 A_kfb_ss_circling_42 s.2 q.2) (fun q hq => RP_w (u_kfb_ss_circling_42 q) (sl_w (fun z hz => (fr_s hz hq rfl rfl)) (fun z hz => (fr_s hz hq rfl rfl)))) fr_0
def F_kfl_ss_circling_40 : List Nat := []
def A_kfl_ss_circling_40 : List Nat := [38]
theorem u_kfl_ss_circling_40 (m : mR) : RP (kfl_ss_circling_40 m) (fun z : Int × mR => fr F_kfl_ss_circling_40 A_kfl_ss_circling_40 m z.2) := by
  unfold kfl_ss_circling_40
  refine RP_bnd (uw_kfb_ss_circling_42 (0, m)) (fun e21 h1 => ?_)
  have h2 : fr F_kfl_ss_circling_40 A_kfl_ss_circling_40 m e21 := (fr_s h1 fr_0 rfl rfl)
  exact RP_w (u_kfl_ss_circling_104 e21) (fun z hz => (fr_s hz h2 rfl rfl))
def F_kfl_ss_circling_33 : List Nat := []
def A_kfl_ss_circling_33 : List Nat := [38]
theorem u_kfl_ss_circling_33 (v1 : Int) (u1 : Int) (u2 : Int) (m : mR) : RP (kfl_ss_circling_33 v1 u1 u2 m) (sel (fun z : (Int × mR) => fr F_kfl_ss_circling_33 A_kfl_ss_circling_33 m z.2) (fun z : mR => fr F_kfl_ss_circling_33 A_kfl_ss_circling_33 m z)) := by
  unfold kfl_ss_circling_33
  exact RP_some (fr_m fr_0 rfl rfl)
def F_kfb_ss_circling_2 : List Nat := []
def A_kfb_ss_circling_2 : List Nat := [38]
theorem u_kfb_ss_circling_2 (s : Int × mR) : RP (kfb_ss_circling_2 s) (sel (fun z : (Int × mR) => fr F_kfb_ss_circling_2 A_kfb_ss_circling_2 s.2 z.2) (fun z : mR => fr F_kfb_ss_circling_2 A_kfb_ss_circling_2 s.2 z)) := by
  unfold kfb_ss_circling_2
  refine RP_ite (fun h1 => ?_) (fun h1 => ?_)
  · skip
    exact RP_some fr_0
  · skip
    refine RP_ite (fun h2 => ?_) (fun h2 => ?_)
    · skip
      refine RP_bndT (fun y27 => ?_)
      exact RP_w (u_kfl_ss_circling_33 s.1 s.1 y27 s.2) (sl_w (fun z hz => (fr_s hz fr_0 rfl rfl)) (fun z hz => (fr_s hz fr_0 rfl rfl)))
    · skip
      exact RP_w (u_kfl_ss_circling_33 s.1 s.1 0 s.2) (sl_w (fun z hz => (fr_s hz fr_0 rfl rfl)) (fun z hz => (fr_s hz fr_0 rfl rfl)))
theorem uw_kfb_ss_circling_2 (s : Int × mR) : RP (whl kfb_ss_circling_2 s) (fun z : mR => fr F_kfb_ss_circling_2 A_kfb_ss_circling_2 s.2 z) := RP_whl (I := fun q : Int × mR => fr F_kfb_ss_circling_2 A_kfb_ss_circling_2 s.2 q.2) (fun q hq => RP_w (u_kfb_ss_circling_2 q) (sl_w (fun z hz => (fr_s hz hq rfl rfl)) (fun z hz => (fr_s hz hq rfl rfl)))) fr_0
theorem u_kf_ss_circling (m : mR) : RP (kf_ss_circling m) (fun z : Int × mR => fr kF_ss_circling kA_ss_circling m z.2) := by
  unfold kf_ss_circling
  refine RP_bnd (uw_kfb_ss_circling_2 (0, m)) (fun e30 h1 => ?_)
  have h2 : fr kF_ss_circling kA_ss_circling m e30 := (fr_s h1 fr_0 rfl rfl)
  exact RP_w (u_kfl_ss_circling_40 e30) (fun z hz => (fr_s hz h2 rfl rfl))
def kF_rd_close : List Nat := [211, 212]
def kA_rd_close : List Nat := [38]
def F_kfl_rd_close_43 : List Nat := [211, 212]
def A_kfl_rd_close_43 : List Nat := [38]
theorem u_kfl_rd_close_43 (m : mR) : RP (kfl_rd_close_43 m) (fun z : Int × Int × mR => fr F_kfl_rd_close_43 A_kfl_rd_close_43 m z.2.2) := by
  unfold kfl_rd_close_43
  refine RP_bnd (u_kf_ss_circling m) (fun y1 h1 => ?_)
  have h2 : fr F_kfl_rd_close_43 A_kfl_rd_close_43 m y1.2 := (fr_s h1 fr_0 rfl rfl)
  refine RP_ite (fun h3 => ?_) (fun h3 => ?_)
  · skip
    exact RP_some h2
  · skip
    refine RP_bnd (u_kf_tx_fail 8 y1.1 y1.2) (fun y5 h4 => ?_)
    have h5 : fr F_kfl_rd_close_43 A_kfl_rd_close_43 m y5.2.2 := (fr_s h4 h2 rfl rfl)
    refine RP_ite (fun h6 => ?_) (fun h6 => ?_)
    · skip
      exact RP_some h5
    · skip
      exact RP_some h5
def F_kfl_rd_close_20 : List Nat := [211, 212]
def A_kfl_rd_close_20 : List Nat := [38]
theorem u_kfl_rd_close_20 (m : mR) : RP (kfl_rd_close_20 m) (fun z : Int × Int × mR => fr F_kfl_rd_close_20 A_kfl_rd_close_20 m z.2.2) := by
  unfold kfl_rd_close_20
  refine RP_bndT (fun y8 => ?_)
  refine RP_ite (fun h1 => ?_) (fun h1 => ?_)
  · skip
    exact RP_w (u_kfl_rd_close_43 m) (fun z hz => (fr_s hz fr_0 rfl rfl))
  · skip
    refine RP_bnd (u_kf_tx_fail 6 y8 m) (fun y12 h2 => ?_)
    have h3 : fr F_kfl_rd_close_20 A_kfl_rd_close_20 m y12.2.2 := (fr_s h2 fr_0 rfl rfl)
    refine RP_ite (fun h4 => ?_) (fun h4 => ?_)
    · skip
      exact RP_w (u_kfl_rd_close_43 y12.2.2) (fun z hz => (fr_s hz h3 rfl rfl))
    · skip
      exact RP_some h3
theorem u_kf_rd_close (m : mR) : RP (kf_rd_close m) (fun z : Int × Int × mR => fr kF_rd_close kA_rd_close m z.2.2) := by
  unfold kf_rd_close
  refine RP_ite (fun h1 => ?_) (fun h1 => ?_)
  · skip
    exact RP_w (u_kfl_rd_close_20 m) (fun z hz => (fr_s hz fr_0 rfl rfl))
  · skip
    refine RP_bnd (u_kf_tx_refuse m) (fun y16 h2 => ?_)
    have h3 : fr kF_rd_close kA_rd_close m y16.2.2 := (fr_s h2 fr_0 rfl rfl)
    refine RP_ite (fun h4 => ?_) (fun h4 => ?_)
    · skip
      exact RP_w (u_kfl_rd_close_20 y16.2.2) (fun z hz => (fr_s hz h3 rfl rfl))
    · skip
      exact RP_some h3
def kF_sp_add : List Nat := [225]
def kA_sp_add : List Nat := [52, 53, 54, 55, 56, 58]
theorem u_kf_sp_add (v1 : Int) (v2 : Int) (v3 : Int) (m : mR) : RP (kf_sp_add v1 v2 v3 m) (fun z : Int × mR => fr kF_sp_add kA_sp_add m z.2) := by
  unfold kf_sp_add
  exact RP_some (fr_m fr_0 rfl rfl)
def kF_ac_addDeed : List Nat := [224]
def kA_ac_addDeed : List Nat := [45, 46, 47, 49, 51]
theorem u_kf_ac_addDeed (v1 : Int) (m : mR) : RP (kf_ac_addDeed v1 m) (fun z : Int × mR => fr kF_ac_addDeed kA_ac_addDeed m z.2) := by
  unfold kf_ac_addDeed
  exact RP_some (fr_m fr_0 rfl rfl)
def kF_fm_placeSlot : List Nat := [205, 206, 207, 208, 209, 210, 211, 212]
def kA_fm_placeSlot : List Nat := []
def F_kfl_fm_placeSlot_166 : List Nat := [205, 206, 207, 208, 209, 210, 211, 212]
def A_kfl_fm_placeSlot_166 : List Nat := []
theorem u_kfl_fm_placeSlot_166 (v2 : Int) (v3 : Int) (m : mR) : RP (kfl_fm_placeSlot_166 v2 v3 m) (fun z : Int × Int × mR => fr F_kfl_fm_placeSlot_166 A_kfl_fm_placeSlot_166 m z.2.2) := by
  unfold kfl_fm_placeSlot_166
  refine RP_bnd (u_kf_tx_advance m) (fun y1 h1 => ?_)
  have h2 : fr F_kfl_fm_placeSlot_166 A_kfl_fm_placeSlot_166 m y1.2.2 := (fr_s h1 fr_0 rfl rfl)
  refine RP_ite (fun h3 => ?_) (fun h3 => ?_)
  · skip
    exact RP_some h2
  · skip
    exact RP_some h2
def F_kfl_fm_placeSlot_114 : List Nat := [205, 206, 207, 208, 209, 210, 211, 212]
def A_kfl_fm_placeSlot_114 : List Nat := []
theorem u_kfl_fm_placeSlot_114 (v2 : Int) (m : mR) : RP (kfl_fm_placeSlot_114 v2 m) (fun z : Int × Int × mR => fr F_kfl_fm_placeSlot_114 A_kfl_fm_placeSlot_114 m z.2.2) := by
  unfold kfl_fm_placeSlot_114
  refine RP_bndT (fun y4 => ?_)
  refine RP_ite (fun h1 => ?_) (fun h1 => ?_)
  · skip
    refine RP_bnd (u_kf_tx_fail 6 (m.1 207) m) (fun y8 h2 => ?_)
    have h3 : fr F_kfl_fm_placeSlot_114 A_kfl_fm_placeSlot_114 m y8.2.2 := (fr_s h2 fr_0 rfl rfl)
    refine RP_ite (fun h4 => ?_) (fun h4 => ?_)
    · skip
      exact RP_w (u_kfl_fm_placeSlot_166 v2 y4 y8.2.2) (fun z hz => (fr_s hz h3 rfl rfl))
    · skip
      exact RP_some h3
  · skip
    exact RP_w (u_kfl_fm_placeSlot_166 v2 y4 m) (fun z hz => (fr_s hz fr_0 rfl rfl))
def F_kfl_fm_placeSlot_87 : List Nat := [205, 206, 207, 208, 209, 210, 211, 212]
def A_kfl_fm_placeSlot_87 : List Nat := []
theorem u_kfl_fm_placeSlot_87 (v2 : Int) (m : mR) : RP (kfl_fm_placeSlot_87 v2 m) (fun z : Int × Int × mR => fr F_kfl_fm_placeSlot_87 A_kfl_fm_placeSlot_87 m z.2.2) := by
  unfold kfl_fm_placeSlot_87
  refine RP_bnd (u_kf_tx_advance m) (fun y11 h1 => ?_)
  have h2 : fr F_kfl_fm_placeSlot_87 A_kfl_fm_placeSlot_87 m y11.2.2 := (fr_s h1 fr_0 rfl rfl)
  refine RP_ite (fun h3 => ?_) (fun h3 => ?_)
  · skip
    refine RP_ite (fun h4 => ?_) (fun h4 => ?_)
    · skip
      exact RP_w (u_kfl_fm_placeSlot_114 v2 y11.2.2) (fun z hz => (fr_s hz h2 rfl rfl))
    · skip
      refine RP_bnd (u_kf_tx_refuse y11.2.2) (fun y15 h5 => ?_)
      have h6 : fr F_kfl_fm_placeSlot_87 A_kfl_fm_placeSlot_87 m y15.2.2 := (fr_s h5 h2 rfl rfl)
      refine RP_ite (fun h7 => ?_) (fun h7 => ?_)
      · skip
        exact RP_w (u_kfl_fm_placeSlot_114 v2 y15.2.2) (fun z hz => (fr_s hz h6 rfl rfl))
      · skip
        exact RP_some h6
  · skip
    exact RP_some h2
def F_kfl_fm_placeSlot_61 : List Nat := [205, 206, 207, 208, 209, 210, 211, 212]
def A_kfl_fm_placeSlot_61 : List Nat := []
theorem u_kfl_fm_placeSlot_61 (v2 : Int) (m : mR) : RP (kfl_fm_placeSlot_61 v2 m) (fun z : Int × Int × mR => fr F_kfl_fm_placeSlot_61 A_kfl_fm_placeSlot_61 m z.2.2) := by
  unfold kfl_fm_placeSlot_61
  refine RP_bnd (u_kf_tx_advance m) (fun y18 h1 => ?_)
  have h2 : fr F_kfl_fm_placeSlot_61 A_kfl_fm_placeSlot_61 m y18.2.2 := (fr_s h1 fr_0 rfl rfl)
  refine RP_ite (fun h3 => ?_) (fun h3 => ?_)
  · skip
    refine RP_ite (fun h4 => ?_) (fun h4 => ?_)
    · skip
      exact RP_w (u_kfl_fm_placeSlot_87 v2 y18.2.2) (fun z hz => (fr_s hz h2 rfl rfl))
    · skip
      refine RP_bnd (u_kf_tx_refuse y18.2.2) (fun y22 h5 => ?_)
      have h6 : fr F_kfl_fm_placeSlot_61 A_kfl_fm_placeSlot_61 m y22.2.2 := (fr_s h5 h2 rfl rfl)
      refine RP_ite (fun h7 => ?_) (fun h7 => ?_)
      · skip
        exact RP_w (u_kfl_fm_placeSlot_87 v2 y22.2.2) (fun z hz => (fr_s hz h6 rfl rfl))
      · skip
        exact RP_some h6
  · skip
    exact RP_some h2
theorem u_kf_fm_placeSlot (m : mR) : RP (kf_fm_placeSlot m) (fun z : Int × Int × mR => fr kF_fm_placeSlot kA_fm_placeSlot m z.2.2) := by
  unfold kf_fm_placeSlot
  refine RP_bndT (fun y25 => ?_)
  refine RP_ite (fun h1 => ?_) (fun h1 => ?_)
  · skip
    refine RP_bndT (fun y29 => ?_)
    refine RP_ite (fun h2 => ?_) (fun h2 => ?_)
    · skip
      refine RP_bnd (u_kf_tx_fail 6 (m.1 207) m) (fun y33 h3 => ?_)
      have h4 : fr kF_fm_placeSlot kA_fm_placeSlot m y33.2.2 := (fr_s h3 fr_0 rfl rfl)
      refine RP_ite (fun h5 => ?_) (fun h5 => ?_)
      · skip
        exact RP_w (u_kfl_fm_placeSlot_61 y29 y33.2.2) (fun z hz => (fr_s hz h4 rfl rfl))
      · skip
        exact RP_some h4
    · skip
      exact RP_w (u_kfl_fm_placeSlot_61 y29 m) (fun z hz => (fr_s hz fr_0 rfl rfl))
  · skip
    refine RP_bnd (u_kf_tx_advance m) (fun y36 h6 => ?_)
    have h7 : fr kF_fm_placeSlot kA_fm_placeSlot m y36.2.2 := (fr_s h6 fr_0 rfl rfl)
    refine RP_ite (fun h8 => ?_) (fun h8 => ?_)
    · skip
      exact RP_some h7
    · skip
      exact RP_some h7
def kF_rd_writtenSlot : List Nat := [205, 206, 207, 208, 209, 210, 211, 212]
def kA_rd_writtenSlot : List Nat := []
def F_kfl_rd_writtenSlot_56 : List Nat := [205, 206, 207, 208, 209, 210, 211, 212]
def A_kfl_rd_writtenSlot_56 : List Nat := []
theorem u_kfl_rd_writtenSlot_56 (m : mR) : RP (kfl_rd_writtenSlot_56 m) (fun z : Int × Int × mR => fr F_kfl_rd_writtenSlot_56 A_kfl_rd_writtenSlot_56 m z.2.2) := by
  unfold kfl_rd_writtenSlot_56
  refine RP_bnd (u_kf_fm_placeSlot m) (fun y1 h1 => ?_)
  have h2 : fr F_kfl_rd_writtenSlot_56 A_kfl_rd_writtenSlot_56 m y1.2.2 := (fr_s h1 fr_0 rfl rfl)
  refine RP_ite (fun h3 => ?_) (fun h3 => ?_)
  · skip
    exact RP_some h2
  · skip
    exact RP_some h2
def F_kfl_rd_writtenSlot_40 : List Nat := [205, 206, 207, 208, 209, 210, 211, 212]
def A_kfl_rd_writtenSlot_40 : List Nat := []
theorem u_kfl_rd_writtenSlot_40 (m : mR) : RP (kfl_rd_writtenSlot_40 m) (fun z : Int × Int × mR => fr F_kfl_rd_writtenSlot_40 A_kfl_rd_writtenSlot_40 m z.2.2) := by
  unfold kfl_rd_writtenSlot_40
  refine RP_bnd (u_kf_tx_fail 6 (m.1 207) m) (fun y4 h1 => ?_)
  have h2 : fr F_kfl_rd_writtenSlot_40 A_kfl_rd_writtenSlot_40 m y4.2.2 := (fr_s h1 fr_0 rfl rfl)
  refine RP_ite (fun h3 => ?_) (fun h3 => ?_)
  · skip
    exact RP_w (u_kfl_rd_writtenSlot_56 y4.2.2) (fun z hz => (fr_s hz h2 rfl rfl))
  · skip
    exact RP_some h2
def F_kfl_rd_writtenSlot_20 : List Nat := [205, 206, 207, 208, 209, 210, 211, 212]
def A_kfl_rd_writtenSlot_20 : List Nat := []
theorem u_kfl_rd_writtenSlot_20 (m : mR) : RP (kfl_rd_writtenSlot_20 m) (fun z : Int × Int × mR => fr F_kfl_rd_writtenSlot_20 A_kfl_rd_writtenSlot_20 m z.2.2) := by
  unfold kfl_rd_writtenSlot_20
  refine RP_bndT (fun y7 => ?_)
  refine RP_ite (fun h1 => ?_) (fun h1 => ?_)
  · skip
    exact RP_w (u_kfl_rd_writtenSlot_40 m) (fun z hz => (fr_s hz fr_0 rfl rfl))
  · skip
    refine RP_ite (fun h2 => ?_) (fun h2 => ?_)
    · skip
      exact RP_w (u_kfl_rd_writtenSlot_40 m) (fun z hz => (fr_s hz fr_0 rfl rfl))
    · skip
      exact RP_w (u_kfl_rd_writtenSlot_56 m) (fun z hz => (fr_s hz fr_0 rfl rfl))
theorem u_kf_rd_writtenSlot (m : mR) : RP (kf_rd_writtenSlot m) (fun z : Int × Int × mR => fr kF_rd_writtenSlot kA_rd_writtenSlot m z.2.2) := by
  unfold kf_rd_writtenSlot
  refine RP_ite (fun h1 => ?_) (fun h1 => ?_)
  · skip
    exact RP_w (u_kfl_rd_writtenSlot_20 m) (fun z hz => (fr_s hz fr_0 rfl rfl))
  · skip
    refine RP_bnd (u_kf_tx_refuse m) (fun y13 h2 => ?_)
    have h3 : fr kF_rd_writtenSlot kA_rd_writtenSlot m y13.2.2 := (fr_s h2 fr_0 rfl rfl)
    refine RP_ite (fun h4 => ?_) (fun h4 => ?_)
    · skip
      exact RP_w (u_kfl_rd_writtenSlot_20 y13.2.2) (fun z hz => (fr_s hz h3 rfl rfl))
    · skip
      exact RP_some h3
def kF_rd_arrayOf : List Nat := [205, 206, 207, 208, 209, 210, 211, 212]
def kA_rd_arrayOf : List Nat := [47]
theorem u_kf_rd_arrayOf (v1 : Int) (m : mR) : RP (kf_rd_arrayOf v1 m) (fun z : Int × Int × mR => fr kF_rd_arrayOf kA_rd_arrayOf m z.2.2) := by
  unfold kf_rd_arrayOf
  refine RP_bnd (u_kf_tx_known 303 m) (fun y1 h1 => ?_)
  have h2 : fr kF_rd_arrayOf kA_rd_arrayOf m y1.2.2 := (fr_s h1 fr_0 rfl rfl)
  refine RP_ite (fun h3 => ?_) (fun h3 => ?_)
  · skip
    refine RP_ite (fun h4 => ?_) (fun h4 => ?_)
    · skip
      exact RP_some (fr_m h2 rfl rfl)
    · skip
      refine RP_bndT (fun y5 => ?_)
      refine RP_ite (fun h5 => ?_) (fun h5 => ?_)
      · skip
        exact RP_some (fr_m h2 rfl rfl)
      · skip
        refine RP_bnd (u_kf_tx_fail 7 (m.1 207) (mO y1.2.2 [] [(47, upI (y1.2.2.2 47) v1 y1.2.1)])) (fun y9 h6 => ?_)
        have h7 : fr kF_rd_arrayOf kA_rd_arrayOf m y9.2.2 := (fr_s h6 (fr_m h2 rfl rfl) rfl rfl)
        refine RP_ite (fun h8 => ?_) (fun h8 => ?_)
        · skip
          exact RP_some h7
        · skip
          exact RP_some h7
  · skip
    exact RP_some h2
def kF_fm_add : List Nat := [213, 220, 229]
def kA_fm_add : List Nat := [18, 19, 20, 22, 23, 70]
def F_kfl_fm_add_105 : List Nat := [213, 229]
def A_kfl_fm_add_105 : List Nat := [70]
theorem u_kfl_fm_add_105 (v6 : Int) (u1 : Int) (m : mR) : RP (kfl_fm_add_105 v6 u1 m) (fun z : Int × mR => fr F_kfl_fm_add_105 A_kfl_fm_add_105 m z.2) := by
  unfold kfl_fm_add_105
  exact RP_some (fr_m fr_0 rfl rfl)
theorem u_kf_fm_add (v1 : Int) (v2 : Int) (v3 : Int) (v4 : Int) (v5 : Int) (m : mR) : RP (kf_fm_add v1 v2 v3 v4 v5 m) (fun z : Int × mR => fr kF_fm_add kA_fm_add m z.2) := by
  unfold kf_fm_add
  refine RP_bndT (fun y1 => ?_)
  refine RP_ite (fun h1 => ?_) (fun h1 => ?_)
  · skip
    exact RP_w (u_kfl_fm_add_105 y1 0 (mO m [(220, cut (y1 + 1))] [(18, upI (m.2 18) y1 v1), (19, upI (m.2 19) y1 v2), (20, upI (m.2 20) y1 v3), (22, upI (m.2 22) y1 v4), (23, upI (m.2 23) y1 v5)])) (fun z hz => (fr_s hz (fr_m fr_0 rfl rfl) rfl rfl))
  · skip
    exact RP_w (u_kfl_fm_add_105 y1 1 (mO m [(220, cut (y1 + 1))] [(18, upI (m.2 18) y1 v1), (19, upI (m.2 19) y1 v2), (20, upI (m.2 20) y1 v3), (22, upI (m.2 22) y1 v4), (23, upI (m.2 23) y1 v5)])) (fun z hz => (fr_s hz (fr_m fr_0 rfl rfl) rfl rfl))
def kF_tx_within : List Nat := [205, 206, 207, 208, 209, 210, 211, 212]
def kA_tx_within : List Nat := []
def F_kfl_tx_within_43 : List Nat := [205, 206, 207, 208, 209, 210, 211, 212]
def A_kfl_tx_within_43 : List Nat := []
theorem u_kfl_tx_within_43 (m : mR) : RP (kfl_tx_within_43 m) (fun z : Int × Int × mR => fr F_kfl_tx_within_43 A_kfl_tx_within_43 m z.2.2) := by
  unfold kfl_tx_within_43
  refine RP_bnd (u_kf_tx_advance m) (fun y1 h1 => ?_)
  have h2 : fr F_kfl_tx_within_43 A_kfl_tx_within_43 m y1.2.2 := (fr_s h1 fr_0 rfl rfl)
  refine RP_ite (fun h3 => ?_) (fun h3 => ?_)
  · skip
    exact RP_some h2
  · skip
    exact RP_some h2
def F_kfl_tx_within_34 : List Nat := [205, 206, 207, 208, 209, 210, 211, 212]
def A_kfl_tx_within_34 : List Nat := []
theorem u_kfl_tx_within_34 (m : mR) : RP (kfl_tx_within_34 m) (fun z : Int × Int × mR => fr F_kfl_tx_within_34 A_kfl_tx_within_34 m z.2.2) := by
  unfold kfl_tx_within_34
  refine RP_bnd (u_kf_tx_fail 5 (m.1 207) m) (fun y4 h1 => ?_)
  have h2 : fr F_kfl_tx_within_34 A_kfl_tx_within_34 m y4.2.2 := (fr_s h1 fr_0 rfl rfl)
  refine RP_ite (fun h3 => ?_) (fun h3 => ?_)
  · skip
    exact RP_w (u_kfl_tx_within_43 y4.2.2) (fun z hz => (fr_s hz h2 rfl rfl))
  · skip
    exact RP_some h2
def F_kfl_tx_within_14 : List Nat := [205, 206, 207, 208, 209, 210, 211, 212]
def A_kfl_tx_within_14 : List Nat := []
theorem u_kfl_tx_within_14 (v1 : Int) (v2 : Int) (m : mR) : RP (kfl_tx_within_14 v1 v2 m) (fun z : Int × Int × mR => fr F_kfl_tx_within_14 A_kfl_tx_within_14 m z.2.2) := by
  unfold kfl_tx_within_14
  refine RP_ite (fun h1 => ?_) (fun h1 => ?_)
  · skip
    exact RP_w (u_kfl_tx_within_34 m) (fun z hz => (fr_s hz fr_0 rfl rfl))
  · skip
    refine RP_ite (fun h2 => ?_) (fun h2 => ?_)
    · skip
      exact RP_w (u_kfl_tx_within_43 m) (fun z hz => (fr_s hz fr_0 rfl rfl))
    · skip
      exact RP_w (u_kfl_tx_within_34 m) (fun z hz => (fr_s hz fr_0 rfl rfl))
theorem u_kf_tx_within (v1 : Int) (v2 : Int) (m : mR) : RP (kf_tx_within v1 v2 m) (fun z : Int × Int × mR => fr kF_tx_within kA_tx_within m z.2.2) := by
  unfold kf_tx_within
  refine RP_ite (fun h1 => ?_) (fun h1 => ?_)
  · skip
    exact RP_w (u_kfl_tx_within_14 v1 v2 m) (fun z hz => (fr_s hz fr_0 rfl rfl))
  · skip
    refine RP_bnd (u_kf_tx_refuse m) (fun y10 h2 => ?_)
    have h3 : fr kF_tx_within kA_tx_within m y10.2.2 := (fr_s h2 fr_0 rfl rfl)
    refine RP_ite (fun h4 => ?_) (fun h4 => ?_)
    · skip
      exact RP_w (u_kfl_tx_within_14 v1 v2 y10.2.2) (fun z hz => (fr_s hz h3 rfl rfl))
    · skip
      exact RP_some h3
def kF_fm_suffixes : List Nat := [205, 206, 207, 208, 209, 210, 211, 212, 213, 220, 229]
def kA_fm_suffixes : List Nat := [18, 19, 20, 22, 23, 70]
def F_kfl_fm_suffixes_287 : List Nat := []
def A_kfl_fm_suffixes_287 : List Nat := []
theorem u_kfl_fm_suffixes_287 (v1 : Int) (m : mR) : RP (kfl_fm_suffixes_287 v1 m) (sel (fun z : (Int × mR) => fr F_kfl_fm_suffixes_287 A_kfl_fm_suffixes_287 m z.2) (sel (fun z : (mR) => fr F_kfl_fm_suffixes_287 A_kfl_fm_suffixes_287 m z) (fun z : Int × mR => fr F_kfl_fm_suffixes_287 A_kfl_fm_suffixes_287 m z.2))) := by
  unfold kfl_fm_suffixes_287
  exact RP_some fr_0
def F_kfl_fm_suffixes_239 : List Nat := [205, 206, 207, 208, 209, 210, 211, 212, 213, 220, 229]
def A_kfl_fm_suffixes_239 : List Nat := [18, 19, 20, 22, 23, 70]
theorem u_kfl_fm_suffixes_239 (v1 : Int) (v2 : Int) (v5 : Int) (v7 : Int) (m : mR) : RP (kfl_fm_suffixes_239 v1 v2 v5 v7 m) (sel (fun z : (Int × mR) => fr F_kfl_fm_suffixes_239 A_kfl_fm_suffixes_239 m z.2) (sel (fun z : (mR) => fr F_kfl_fm_suffixes_239 A_kfl_fm_suffixes_239 m z) (fun z : Int × mR => fr F_kfl_fm_suffixes_239 A_kfl_fm_suffixes_239 m z.2))) := by
  unfold kfl_fm_suffixes_239
  refine RP_bnd (u_kf_tx_expect 93 m) (fun y2 h1 => ?_)
  have h2 : fr F_kfl_fm_suffixes_239 A_kfl_fm_suffixes_239 m y2.2.2 := (fr_s h1 fr_0 rfl rfl)
  refine RP_ite (fun h3 => ?_) (fun h3 => ?_)
  · skip
    refine RP_bnd (u_kf_fm_add 402 v2 (cut v7) (cut ((cut (cutl (v5 - v7))) + 1)) ((y2.2.2.2 23) v2) (mO y2.2.2 [(229, cut ((y2.2.2.1 229) - 1))] [])) (fun y5 h4 => ?_)
    have h5 : fr F_kfl_fm_suffixes_239 A_kfl_fm_suffixes_239 m y5.2 := (fr_s h4 (fr_m h2 rfl rfl) rfl rfl)
    exact RP_w (u_kfl_fm_suffixes_287 v1 y5.2) (sl_w (fun z hz => (fr_s hz h5 rfl rfl)) (sl_w (fun z hz => (fr_s hz h5 rfl rfl)) (fun z hz => (fr_s hz h5 rfl rfl))))
  · skip
    exact RP_some h2
def F_kfl_fm_suffixes_221 : List Nat := [205, 206, 207, 208, 209, 210, 211, 212, 213, 220, 229]
def A_kfl_fm_suffixes_221 : List Nat := [18, 19, 20, 22, 23, 70]
theorem u_kfl_fm_suffixes_221 (v1 : Int) (v2 : Int) (v4 : Int) (v5 : Int) (v7 : Int) (u0 : Int) (m : mR) : RP (kfl_fm_suffixes_221 v1 v2 v4 v5 v7 u0 m) (sel (fun z : (Int × mR) => fr F_kfl_fm_suffixes_221 A_kfl_fm_suffixes_221 m z.2) (sel (fun z : (mR) => fr F_kfl_fm_suffixes_221 A_kfl_fm_suffixes_221 m z) (fun z : Int × mR => fr F_kfl_fm_suffixes_221 A_kfl_fm_suffixes_221 m z.2))) := by
  unfold kfl_fm_suffixes_221
  refine RP_ite (fun h1 => ?_) (fun h1 => ?_)
  · skip
    refine RP_bnd (u_kf_tx_fail 7 v4 m) (fun y9 h2 => ?_)
    have h3 : fr F_kfl_fm_suffixes_221 A_kfl_fm_suffixes_221 m y9.2.2 := (fr_s h2 fr_0 rfl rfl)
    refine RP_ite (fun h4 => ?_) (fun h4 => ?_)
    · skip
      exact RP_w (u_kfl_fm_suffixes_239 v1 v2 v5 v7 y9.2.2) (sl_w (fun z hz => (fr_s hz h3 rfl rfl)) (sl_w (fun z hz => (fr_s hz h3 rfl rfl)) (fun z hz => (fr_s hz h3 rfl rfl))))
    · skip
      exact RP_some h3
  · skip
    exact RP_w (u_kfl_fm_suffixes_239 v1 v2 v5 v7 m) (sl_w (fun z hz => (fr_s hz fr_0 rfl rfl)) (sl_w (fun z hz => (fr_s hz fr_0 rfl rfl)) (fun z hz => (fr_s hz fr_0 rfl rfl))))
def F_kfl_fm_suffixes_220 : List Nat := [205, 206, 207, 208, 209, 210, 211, 212, 213, 220, 229]
def A_kfl_fm_suffixes_220 : List Nat := [18, 19, 20, 22, 23, 70]
theorem u_kfl_fm_suffixes_220 (v1 : Int) (v2 : Int) (v4 : Int) (v5 : Int) (v7 : Int) (m : mR) : RP (kfl_fm_suffixes_220 v1 v2 v4 v5 v7 m) (sel (fun z : (Int × mR) => fr F_kfl_fm_suffixes_220 A_kfl_fm_suffixes_220 m z.2) (sel (fun z : (mR) => fr F_kfl_fm_suffixes_220 A_kfl_fm_suffixes_220 m z) (fun z : Int × mR => fr F_kfl_fm_suffixes_220 A_kfl_fm_suffixes_220 m z.2))) := by
  unfold kfl_fm_suffixes_220
  exact RP_w (u_kfl_fm_suffixes_221 v1 v2 v4 v5 v7 0 m) (sl_w (fun z hz => (fr_s hz fr_0 rfl rfl)) (sl_w (fun z hz => (fr_s hz fr_0 rfl rfl)) (fun z hz => (fr_s hz fr_0 rfl rfl))))
def F_kfl_fm_suffixes_64 : List Nat := [205, 206, 207, 208, 209, 210, 211, 212, 213, 220, 229]
def A_kfl_fm_suffixes_64 : List Nat := [18, 19, 20, 22, 23, 70]
theorem u_kfl_fm_suffixes_64 (v1 : Int) (v2 : Int) (u0 : Int) (m : mR) : RP (kfl_fm_suffixes_64 v1 v2 u0 m) (sel (fun z : (Int × mR) => fr F_kfl_fm_suffixes_64 A_kfl_fm_suffixes_64 m z.2) (sel (fun z : (mR) => fr F_kfl_fm_suffixes_64 A_kfl_fm_suffixes_64 m z) (fun z : Int × mR => fr F_kfl_fm_suffixes_64 A_kfl_fm_suffixes_64 m z.2))) := by
  unfold kfl_fm_suffixes_64
  refine RP_bnd (u_kf_tx_advance m) (fun y12 h1 => ?_)
  have h2 : fr F_kfl_fm_suffixes_64 A_kfl_fm_suffixes_64 m y12.2.2 := (fr_s h1 fr_0 rfl rfl)
  refine RP_ite (fun h3 => ?_) (fun h3 => ?_)
  · skip
    refine RP_ite (fun h4 => ?_) (fun h4 => ?_)
    · skip
      refine RP_bnd (u_kf_tx_expect 257 y12.2.2) (fun y16 h5 => ?_)
      have h6 : fr F_kfl_fm_suffixes_64 A_kfl_fm_suffixes_64 m y16.2.2 := (fr_s h5 h2 rfl rfl)
      refine RP_ite (fun h7 => ?_) (fun h7 => ?_)
      · skip
        refine RP_bnd (u_kf_tx_expect 58 y16.2.2) (fun y19 h8 => ?_)
        have h9 : fr F_kfl_fm_suffixes_64 A_kfl_fm_suffixes_64 m y19.2.2 := (fr_s h8 h6 rfl rfl)
        refine RP_ite (fun h10 => ?_) (fun h10 => ?_)
        · skip
          refine RP_bnd (u_kf_tx_expect 257 y19.2.2) (fun y22 h11 => ?_)
          have h12 : fr F_kfl_fm_suffixes_64 A_kfl_fm_suffixes_64 m y22.2.2 := (fr_s h11 h9 rfl rfl)
          refine RP_ite (fun h13 => ?_) (fun h13 => ?_)
          · skip
            refine RP_ite (fun h14 => ?_) (fun h14 => ?_)
            · skip
              exact RP_w (u_kfl_fm_suffixes_220 v1 v2 (y12.2.2.1 207) (y12.2.2.1 208) (y19.2.2.1 208) y22.2.2) (sl_w (fun z hz => (fr_s hz h12 rfl rfl)) (sl_w (fun z hz => (fr_s hz h12 rfl rfl)) (fun z hz => (fr_s hz h12 rfl rfl))))
            · skip
              refine RP_ite (fun h15 => ?_) (fun h15 => ?_)
              · skip
                exact RP_w (u_kfl_fm_suffixes_220 v1 v2 (y12.2.2.1 207) (y12.2.2.1 208) (y19.2.2.1 208) y22.2.2) (sl_w (fun z hz => (fr_s hz h12 rfl rfl)) (sl_w (fun z hz => (fr_s hz h12 rfl rfl)) (fun z hz => (fr_s hz h12 rfl rfl))))
              · skip
                refine RP_ite (fun h16 => ?_) (fun h16 => ?_)
                · skip
                  exact RP_w (u_kfl_fm_suffixes_220 v1 v2 (y12.2.2.1 207) (y12.2.2.1 208) (y19.2.2.1 208) y22.2.2) (sl_w (fun z hz => (fr_s hz h12 rfl rfl)) (sl_w (fun z hz => (fr_s hz h12 rfl rfl)) (fun z hz => (fr_s hz h12 rfl rfl))))
                · skip
                  refine RP_ite (fun h17 => ?_) (fun h17 => ?_)
                  · skip
                    exact RP_w (u_kfl_fm_suffixes_220 v1 v2 (y12.2.2.1 207) (y12.2.2.1 208) (y19.2.2.1 208) y22.2.2) (sl_w (fun z hz => (fr_s hz h12 rfl rfl)) (sl_w (fun z hz => (fr_s hz h12 rfl rfl)) (fun z hz => (fr_s hz h12 rfl rfl))))
                  · skip
                    exact RP_w (u_kfl_fm_suffixes_221 v1 v2 (y12.2.2.1 207) (y12.2.2.1 208) (y19.2.2.1 208) 1 y22.2.2) (sl_w (fun z hz => (fr_s hz h12 rfl rfl)) (sl_w (fun z hz => (fr_s hz h12 rfl rfl)) (fun z hz => (fr_s hz h12 rfl rfl))))
          · skip
            exact RP_some h12
        · skip
          exact RP_some h9
      · skip
        exact RP_some h6
    · skip
      refine RP_bnd (u_kf_tx_within 1 64 y12.2.2) (fun y29 h18 => ?_)
      have h19 : fr F_kfl_fm_suffixes_64 A_kfl_fm_suffixes_64 m y29.2.2 := (fr_s h18 h2 rfl rfl)
      refine RP_ite (fun h20 => ?_) (fun h20 => ?_)
      · skip
        refine RP_bnd (u_kf_fm_add 403 v2 0 y29.2.1 ((y29.2.2.2 23) v2) (mO y29.2.2 [(229, cut ((y29.2.2.1 229) - 1))] [])) (fun y32 h21 => ?_)
        have h22 : fr F_kfl_fm_suffixes_64 A_kfl_fm_suffixes_64 m y32.2 := (fr_s h21 (fr_m h19 rfl rfl) rfl rfl)
        exact RP_w (u_kfl_fm_suffixes_287 v1 y32.2) (sl_w (fun z hz => (fr_s hz h22 rfl rfl)) (sl_w (fun z hz => (fr_s hz h22 rfl rfl)) (fun z hz => (fr_s hz h22 rfl rfl))))
      · skip
        exact RP_some h19
  · skip
    exact RP_some h2
def F_kfl_fm_suffixes_34 : List Nat := [205, 206, 207, 208, 209, 210, 211, 212, 213, 220, 229]
def A_kfl_fm_suffixes_34 : List Nat := [18, 19, 20, 22, 23, 70]
theorem u_kfl_fm_suffixes_34 (v1 : Int) (m : mR) : RP (kfl_fm_suffixes_34 v1 m) (sel (fun z : (Int × mR) => fr F_kfl_fm_suffixes_34 A_kfl_fm_suffixes_34 m z.2) (sel (fun z : (mR) => fr F_kfl_fm_suffixes_34 A_kfl_fm_suffixes_34 m z) (fun z : Int × mR => fr F_kfl_fm_suffixes_34 A_kfl_fm_suffixes_34 m z.2))) := by
  unfold kfl_fm_suffixes_34
  refine RP_ite (fun h1 => ?_) (fun h1 => ?_)
  · skip
    exact RP_w (u_kfl_fm_suffixes_64 v1 ((m.2 70) (cut ((m.1 229) - 1))) 1 m) (sl_w (fun z hz => (fr_s hz fr_0 rfl rfl)) (sl_w (fun z hz => (fr_s hz fr_0 rfl rfl)) (fun z hz => (fr_s hz fr_0 rfl rfl))))
  · skip
    exact RP_w (u_kfl_fm_suffixes_64 v1 ((m.2 70) (cut ((m.1 229) - 1))) 0 m) (sl_w (fun z hz => (fr_s hz fr_0 rfl rfl)) (sl_w (fun z hz => (fr_s hz fr_0 rfl rfl)) (fun z hz => (fr_s hz fr_0 rfl rfl))))
def F_kfb_fm_suffixes_2 : List Nat := [205, 206, 207, 208, 209, 210, 211, 212, 213, 220, 229]
def A_kfb_fm_suffixes_2 : List Nat := [18, 19, 20, 22, 23, 70]
theorem u_kfb_fm_suffixes_2 (s : Int × mR) : RP (kfb_fm_suffixes_2 s) (sel (fun z : (Int × mR) => fr F_kfb_fm_suffixes_2 A_kfb_fm_suffixes_2 s.2 z.2) (sel (fun z : (mR) => fr F_kfb_fm_suffixes_2 A_kfb_fm_suffixes_2 s.2 z) (fun z : Int × mR => fr F_kfb_fm_suffixes_2 A_kfb_fm_suffixes_2 s.2 z.2))) := by
  unfold kfb_fm_suffixes_2
  refine RP_ite (fun h1 => ?_) (fun h1 => ?_)
  · skip
    exact RP_some fr_0
  · skip
    refine RP_ite (fun h2 => ?_) (fun h2 => ?_)
    · skip
      exact RP_w (u_kfl_fm_suffixes_34 s.1 s.2) (sl_w (fun z hz => (fr_s hz fr_0 rfl rfl)) (sl_w (fun z hz => (fr_s hz fr_0 rfl rfl)) (fun z hz => (fr_s hz fr_0 rfl rfl))))
    · skip
      refine RP_ite (fun h3 => ?_) (fun h3 => ?_)
      · skip
        exact RP_w (u_kfl_fm_suffixes_34 s.1 s.2) (sl_w (fun z hz => (fr_s hz fr_0 rfl rfl)) (sl_w (fun z hz => (fr_s hz fr_0 rfl rfl)) (fun z hz => (fr_s hz fr_0 rfl rfl))))
      · skip
        exact RP_some fr_0
theorem uw_kfb_fm_suffixes_2 (s : Int × mR) : RP (whl kfb_fm_suffixes_2 s) (sel (fun z : ((mR)) => fr F_kfb_fm_suffixes_2 A_kfb_fm_suffixes_2 s.2 z) (fun z : Int × mR => fr F_kfb_fm_suffixes_2 A_kfb_fm_suffixes_2 s.2 z.2)) := RP_whl (I := fun q : Int × mR => fr F_kfb_fm_suffixes_2 A_kfb_fm_suffixes_2 s.2 q.2) (fun q hq => RP_w (u_kfb_fm_suffixes_2 q) (sl_w (fun z hz => (fr_s hz hq rfl rfl)) (sl_w (fun z hz => (fr_s hz hq rfl rfl)) (fun z hz => (fr_s hz hq rfl rfl))))) fr_0
theorem u_kf_fm_suffixes (m : mR) : RP (kf_fm_suffixes m) (fun z : Int × Int × mR => fr kF_fm_suffixes kA_fm_suffixes m z.2.2) := by
  unfold kf_fm_suffixes
  refine RP_bnd (uw_kfb_fm_suffixes_2 (0, m)) (RP_sl (fun e40 h1 => ?_) (fun e43 h3 => ?_))
  · skip
    have h2 : fr kF_fm_suffixes kA_fm_suffixes m e40 := (fr_s h1 fr_0 rfl rfl)
    exact RP_some h2
  · skip
    have h4 : fr kF_fm_suffixes kA_fm_suffixes m e43.2 := (fr_s h3 fr_0 rfl rfl)
    exact RP_some h4
def kF_fm_closeBracket : List Nat := [205, 206, 207, 208, 209, 210, 211, 212, 228, 230]
def kA_fm_closeBracket : List Nat := [23]
def F_kfl_fm_closeBracket_19 : List Nat := [205, 206, 207, 208, 209, 210, 211, 212, 228, 230]
def A_kfl_fm_closeBracket_19 : List Nat := [23]
theorem u_kfl_fm_closeBracket_19 (m : mR) : RP (kfl_fm_closeBracket_19 m) (fun z : Int × Int × mR => fr F_kfl_fm_closeBracket_19 A_kfl_fm_closeBracket_19 m z.2.2) := by
  unfold kfl_fm_closeBracket_19
  refine RP_bnd (u_kf_tx_advance (mO m [(228, cut ((m.1 228) - 1)), (230, cut ((m.1 230) - 1))] [(23, upI (m.2 23) ((m.2 70) (cut ((m.1 229) - 1))) ((m.2 69) (cut ((m.1 228) - 1))))])) (fun y1 h1 => ?_)
  have h2 : fr F_kfl_fm_closeBracket_19 A_kfl_fm_closeBracket_19 m y1.2.2 := (fr_s h1 (fr_m fr_0 rfl rfl) rfl rfl)
  refine RP_ite (fun h3 => ?_) (fun h3 => ?_)
  · skip
    exact RP_some h2
  · skip
    exact RP_some h2
theorem u_kf_fm_closeBracket (m : mR) : RP (kf_fm_closeBracket m) (fun z : Int × Int × mR => fr kF_fm_closeBracket kA_fm_closeBracket m z.2.2) := by
  unfold kf_fm_closeBracket
  refine RP_ite (fun h1 => ?_) (fun h1 => ?_)
  · skip
    exact RP_w (u_kfl_fm_closeBracket_19 m) (fun z hz => (fr_s hz fr_0 rfl rfl))
  · skip
    refine RP_bnd (u_kf_tx_refuse m) (fun y5 h2 => ?_)
    have h3 : fr kF_fm_closeBracket kA_fm_closeBracket m y5.2.2 := (fr_s h2 fr_0 rfl rfl)
    refine RP_ite (fun h4 => ?_) (fun h4 => ?_)
    · skip
      exact RP_w (u_kfl_fm_closeBracket_19 y5.2.2) (fun z hz => (fr_s hz h3 rfl rfl))
    · skip
      exact RP_some h3
def kF_nd_fits : List Nat := []
def kA_nd_fits : List Nat := [22]
def F_kfl_nd_fits_59 : List Nat := []
def A_kfl_nd_fits_59 : List Nat := []
theorem u_kfl_nd_fits_59 (u0 : Int) (m : mR) : RP (kfl_nd_fits_59 u0 m) (fun z : Int × mR => fr F_kfl_nd_fits_59 A_kfl_nd_fits_59 m z.2) := by
  unfold kfl_nd_fits_59
  exact RP_some fr_0
def F_kfl_nd_fits_54 : List Nat := []
def A_kfl_nd_fits_54 : List Nat := []
theorem u_kfl_nd_fits_54 (m : mR) : RP (kfl_nd_fits_54 m) (fun z : Int × mR => fr F_kfl_nd_fits_54 A_kfl_nd_fits_54 m z.2) := by
  unfold kfl_nd_fits_54
  exact RP_w (u_kfl_nd_fits_59 1 m) (fun z hz => (fr_s hz fr_0 rfl rfl))
def F_kfl_nd_fits_27 : List Nat := []
def A_kfl_nd_fits_27 : List Nat := []
theorem u_kfl_nd_fits_27 (u0 : Int) (m : mR) : RP (kfl_nd_fits_27 u0 m) (fun z : Int × mR => fr F_kfl_nd_fits_27 A_kfl_nd_fits_27 m z.2) := by
  unfold kfl_nd_fits_27
  exact RP_some fr_0
theorem u_kf_nd_fits (v1 : Int) (v2 : Int) (m : mR) : RP (kf_nd_fits v1 v2 m) (fun z : Int × mR => fr kF_nd_fits kA_nd_fits m z.2) := by
  unfold kf_nd_fits
  refine RP_ite (fun h1 => ?_) (fun h1 => ?_)
  · skip
    refine RP_ite (fun h2 => ?_) (fun h2 => ?_)
    · skip
      exact RP_w (u_kfl_nd_fits_54 (mO m [] [(22, upI (m.2 22) v1 v2)])) (fun z hz => (fr_s hz (fr_m fr_0 rfl rfl) rfl rfl))
    · skip
      refine RP_ite (fun h3 => ?_) (fun h3 => ?_)
      · skip
        exact RP_w (u_kfl_nd_fits_54 (mO m [] [(22, upI (m.2 22) v1 v2)])) (fun z hz => (fr_s hz (fr_m fr_0 rfl rfl) rfl rfl))
      · skip
        exact RP_w (u_kfl_nd_fits_59 0 (mO m [] [(22, upI (m.2 22) v1 v2)])) (fun z hz => (fr_s hz (fr_m fr_0 rfl rfl) rfl rfl))
  · skip
    refine RP_ite (fun h4 => ?_) (fun h4 => ?_)
    · skip
      exact RP_w (u_kfl_nd_fits_27 1 m) (fun z hz => (fr_s hz fr_0 rfl rfl))
    · skip
      exact RP_w (u_kfl_nd_fits_27 0 m) (fun z hz => (fr_s hz fr_0 rfl rfl))
def kF_fm_agree : List Nat := [211, 212]
def kA_fm_agree : List Nat := [22]
def F_kfl_fm_agree_91 : List Nat := [211, 212]
def A_kfl_fm_agree_91 : List Nat := [22]
theorem u_kfl_fm_agree_91 (v4 : Int) (u0 : Int) (m : mR) : RP (kfl_fm_agree_91 v4 u0 m) (fun z : Int × Int × mR => fr F_kfl_fm_agree_91 A_kfl_fm_agree_91 m z.2.2) := by
  unfold kfl_fm_agree_91
  refine RP_bnd (u_kf_nd_fits v4 u0 m) (fun y1 h1 => ?_)
  have h2 : fr F_kfl_fm_agree_91 A_kfl_fm_agree_91 m y1.2 := (fr_s h1 fr_0 rfl rfl)
  refine RP_ite (fun h3 => ?_) (fun h3 => ?_)
  · skip
    refine RP_bnd (u_kf_tx_fail 7 ((y1.2.2 23) v4) y1.2) (fun y5 h4 => ?_)
    have h5 : fr F_kfl_fm_agree_91 A_kfl_fm_agree_91 m y5.2.2 := (fr_s h4 h2 rfl rfl)
    refine RP_ite (fun h6 => ?_) (fun h6 => ?_)
    · skip
      exact RP_some h5
    · skip
      exact RP_some h5
  · skip
    exact RP_some h2
def F_kfl_fm_agree_55 : List Nat := [211, 212]
def A_kfl_fm_agree_55 : List Nat := [22]
theorem u_kfl_fm_agree_55 (v1 : Int) (v2 : Int) (v3 : Int) (u0 : Int) (m : mR) : RP (kfl_fm_agree_55 v1 v2 v3 u0 m) (fun z : Int × Int × mR => fr F_kfl_fm_agree_55 A_kfl_fm_agree_55 m z.2.2) := by
  unfold kfl_fm_agree_55
  refine RP_ite (fun h1 => ?_) (fun h1 => ?_)
  · skip
    exact RP_w (u_kfl_fm_agree_91 u0 1 m) (fun z hz => (fr_s hz fr_0 rfl rfl))
  · skip
    refine RP_ite (fun h2 => ?_) (fun h2 => ?_)
    · skip
      exact RP_w (u_kfl_fm_agree_91 u0 ((m.2 22) v1) m) (fun z hz => (fr_s hz fr_0 rfl rfl))
    · skip
      exact RP_w (u_kfl_fm_agree_91 u0 ((m.2 22) v2) m) (fun z hz => (fr_s hz fr_0 rfl rfl))
def F_kfl_fm_agree_50 : List Nat := [211, 212]
def A_kfl_fm_agree_50 : List Nat := [22]
theorem u_kfl_fm_agree_50 (v1 : Int) (v2 : Int) (v3 : Int) (m : mR) : RP (kfl_fm_agree_50 v1 v2 v3 m) (fun z : Int × Int × mR => fr F_kfl_fm_agree_50 A_kfl_fm_agree_50 m z.2.2) := by
  unfold kfl_fm_agree_50
  exact RP_w (u_kfl_fm_agree_55 v1 v2 v3 v1 m) (fun z hz => (fr_s hz fr_0 rfl rfl))
def F_kfl_fm_agree_40 : List Nat := [211, 212]
def A_kfl_fm_agree_40 : List Nat := [22]
theorem u_kfl_fm_agree_40 (v1 : Int) (v2 : Int) (u0 : Int) (m : mR) : RP (kfl_fm_agree_40 v1 v2 u0 m) (fun z : Int × Int × mR => fr F_kfl_fm_agree_40 A_kfl_fm_agree_40 m z.2.2) := by
  unfold kfl_fm_agree_40
  refine RP_ite (fun h1 => ?_) (fun h1 => ?_)
  · skip
    exact RP_w (u_kfl_fm_agree_50 v1 v2 u0 m) (fun z hz => (fr_s hz fr_0 rfl rfl))
  · skip
    refine RP_ite (fun h2 => ?_) (fun h2 => ?_)
    · skip
      exact RP_w (u_kfl_fm_agree_55 v1 v2 u0 v2 m) (fun z hz => (fr_s hz fr_0 rfl rfl))
    · skip
      exact RP_w (u_kfl_fm_agree_50 v1 v2 u0 m) (fun z hz => (fr_s hz fr_0 rfl rfl))
def F_kfl_fm_agree_39 : List Nat := [211, 212]
def A_kfl_fm_agree_39 : List Nat := [22]
theorem u_kfl_fm_agree_39 (v1 : Int) (v2 : Int) (m : mR) : RP (kfl_fm_agree_39 v1 v2 m) (fun z : Int × Int × mR => fr F_kfl_fm_agree_39 A_kfl_fm_agree_39 m z.2.2) := by
  unfold kfl_fm_agree_39
  exact RP_w (u_kfl_fm_agree_40 v1 v2 0 m) (fun z hz => (fr_s hz fr_0 rfl rfl))
theorem u_kf_fm_agree (v1 : Int) (v2 : Int) (m : mR) : RP (kf_fm_agree v1 v2 m) (fun z : Int × Int × mR => fr kF_fm_agree kA_fm_agree m z.2.2) := by
  unfold kf_fm_agree
  refine RP_ite (fun h1 => ?_) (fun h1 => ?_)
  · skip
    exact RP_w (u_kfl_fm_agree_39 v1 v2 m) (fun z hz => (fr_s hz fr_0 rfl rfl))
  · skip
    refine RP_ite (fun h2 => ?_) (fun h2 => ?_)
    · skip
      refine RP_ite (fun h3 => ?_) (fun h3 => ?_)
      · skip
        exact RP_w (u_kfl_fm_agree_39 v1 v2 m) (fun z hz => (fr_s hz fr_0 rfl rfl))
      · skip
        exact RP_w (u_kfl_fm_agree_40 v1 v2 1 m) (fun z hz => (fr_s hz fr_0 rfl rfl))
    · skip
      exact RP_w (u_kfl_fm_agree_39 v1 v2 m) (fun z hz => (fr_s hz fr_0 rfl rfl))
def kF_fm_closeChoice : List Nat := [211, 212, 213, 220, 228, 229, 230]
def kA_fm_closeChoice : List Nat := [18, 19, 20, 21, 22, 23, 70]
theorem u_kf_fm_closeChoice (m : mR) : RP (kf_fm_closeChoice m) (fun z : Int × Int × mR => fr kF_fm_closeChoice kA_fm_closeChoice m z.2.2) := by
  unfold kf_fm_closeChoice
  refine RP_bnd (u_kf_fm_agree ((m.2 70) (cut ((m.1 229) - 3))) (-1) m) (fun y1 h1 => ?_)
  have h2 : fr kF_fm_closeChoice kA_fm_closeChoice m y1.2.2 := (fr_s h1 fr_0 rfl rfl)
  refine RP_ite (fun h3 => ?_) (fun h3 => ?_)
  · skip
    refine RP_bnd (u_kf_fm_agree ((m.2 70) (cut ((m.1 229) - 2))) ((m.2 70) (cut ((m.1 229) - 1))) y1.2.2) (fun y4 h4 => ?_)
    have h5 : fr kF_fm_closeChoice kA_fm_closeChoice m y4.2.2 := (fr_s h4 h2 rfl rfl)
    refine RP_ite (fun h6 => ?_) (fun h6 => ?_)
    · skip
      refine RP_bnd (u_kf_fm_add 404 ((m.2 70) (cut ((m.1 229) - 3))) ((m.2 70) (cut ((m.1 229) - 2))) ((y4.2.2.2 22) ((m.2 70) (cut ((m.1 229) - 2)))) ((y4.2.2.2 23) ((m.2 70) (cut ((m.1 229) - 3)))) (mO y4.2.2 [(228, cut ((y4.2.2.1 228) - 1)), (229, cut ((y4.2.2.1 229) - 3)), (230, cut ((y4.2.2.1 230) - 1))] [])) (fun y7 h7 => ?_)
      have h8 : fr kF_fm_closeChoice kA_fm_closeChoice m y7.2 := (fr_s h7 (fr_m h5 rfl rfl) rfl rfl)
      exact RP_some (fr_m h8 rfl rfl)
    · skip
      exact RP_some h5
  · skip
    exact RP_some h2
def kF_fm_deepen : List Nat := [211, 212, 230]
def kA_fm_deepen : List Nat := []
def F_kfl_fm_deepen_102 : List Nat := [211, 212]
def A_kfl_fm_deepen_102 : List Nat := []
theorem u_kfl_fm_deepen_102 (u0 : Int) (m : mR) : RP (kfl_fm_deepen_102 u0 m) (fun z : Int × Int × mR => fr F_kfl_fm_deepen_102 A_kfl_fm_deepen_102 m z.2.2) := by
  unfold kfl_fm_deepen_102
  refine RP_ite (fun h1 => ?_) (fun h1 => ?_)
  · skip
    exact RP_some fr_0
  · skip
    refine RP_ite (fun h2 => ?_) (fun h2 => ?_)
    · skip
      exact RP_some fr_0
    · skip
      refine RP_bnd (u_kf_tx_fail 4 (m.1 207) m) (fun y3 h3 => ?_)
      have h4 : fr F_kfl_fm_deepen_102 A_kfl_fm_deepen_102 m y3.2.2 := (fr_s h3 fr_0 rfl rfl)
      refine RP_ite (fun h5 => ?_) (fun h5 => ?_)
      · skip
        exact RP_some h4
      · skip
        exact RP_some h4
def F_kfl_fm_deepen_97 : List Nat := [211, 212]
def A_kfl_fm_deepen_97 : List Nat := []
theorem u_kfl_fm_deepen_97 (m : mR) : RP (kfl_fm_deepen_97 m) (fun z : Int × Int × mR => fr F_kfl_fm_deepen_97 A_kfl_fm_deepen_97 m z.2.2) := by
  unfold kfl_fm_deepen_97
  exact RP_w (u_kfl_fm_deepen_102 1 m) (fun z hz => (fr_s hz fr_0 rfl rfl))
theorem u_kf_fm_deepen (m : mR) : RP (kf_fm_deepen m) (fun z : Int × Int × mR => fr kF_fm_deepen kA_fm_deepen m z.2.2) := by
  unfold kf_fm_deepen
  refine RP_ite (fun h1 => ?_) (fun h1 => ?_)
  · skip
    exact RP_w (u_kfl_fm_deepen_97 (mO m [(230, cut ((m.1 230) + 1))] [])) (fun z hz => (fr_s hz (fr_m fr_0 rfl rfl) rfl rfl))
  · skip
    refine RP_ite (fun h2 => ?_) (fun h2 => ?_)
    · skip
      exact RP_w (u_kfl_fm_deepen_97 (mO m [(230, cut ((m.1 230) + 1))] [])) (fun z hz => (fr_s hz (fr_m fr_0 rfl rfl) rfl rfl))
    · skip
      refine RP_ite (fun h3 => ?_) (fun h3 => ?_)
      · skip
        exact RP_w (u_kfl_fm_deepen_97 (mO m [(230, cut ((m.1 230) + 1))] [])) (fun z hz => (fr_s hz (fr_m fr_0 rfl rfl) rfl rfl))
      · skip
        refine RP_ite (fun h4 => ?_) (fun h4 => ?_)
        · skip
          exact RP_w (u_kfl_fm_deepen_97 (mO m [(230, cut ((m.1 230) + 1))] [])) (fun z hz => (fr_s hz (fr_m fr_0 rfl rfl) rfl rfl))
        · skip
          refine RP_ite (fun h5 => ?_) (fun h5 => ?_)
          · skip
            exact RP_w (u_kfl_fm_deepen_97 (mO m [(230, cut ((m.1 230) + 1))] [])) (fun z hz => (fr_s hz (fr_m fr_0 rfl rfl) rfl rfl))
          · skip
            refine RP_ite (fun h6 => ?_) (fun h6 => ?_)
            · skip
              exact RP_w (u_kfl_fm_deepen_97 (mO m [(230, cut ((m.1 230) + 1))] [])) (fun z hz => (fr_s hz (fr_m fr_0 rfl rfl) rfl rfl))
            · skip
              refine RP_ite (fun h7 => ?_) (fun h7 => ?_)
              · skip
                exact RP_w (u_kfl_fm_deepen_97 (mO m [(230, cut ((m.1 230) + 1))] [])) (fun z hz => (fr_s hz (fr_m fr_0 rfl rfl) rfl rfl))
              · skip
                exact RP_w (u_kfl_fm_deepen_102 0 (mO m [(230, cut ((m.1 230) + 1))] [])) (fun z hz => (fr_s hz (fr_m fr_0 rfl rfl) rfl rfl))
def kF_fm_open : List Nat := [205, 206, 207, 208, 209, 210, 211, 212, 228]
def kA_fm_open : List Nat := [68, 69]
def F_kfl_fm_open_25 : List Nat := [205, 206, 207, 208, 209, 210, 211, 212, 228]
def A_kfl_fm_open_25 : List Nat := [68, 69]
theorem u_kfl_fm_open_25 (v1 : Int) (m : mR) : RP (kfl_fm_open_25 v1 m) (fun z : Int × Int × mR => fr F_kfl_fm_open_25 A_kfl_fm_open_25 m z.2.2) := by
  unfold kfl_fm_open_25
  refine RP_bnd (u_kf_tx_advance (mO m [(228, cut ((m.1 228) + 1))] [(68, upI (m.2 68) (m.1 228) v1), (69, upI (m.2 69) (m.1 228) (m.1 207))])) (fun y1 h1 => ?_)
  have h2 : fr F_kfl_fm_open_25 A_kfl_fm_open_25 m y1.2.2 := (fr_s h1 (fr_m fr_0 rfl rfl) rfl rfl)
  refine RP_ite (fun h3 => ?_) (fun h3 => ?_)
  · skip
    exact RP_some h2
  · skip
    exact RP_some h2
theorem u_kf_fm_open (v1 : Int) (m : mR) : RP (kf_fm_open v1 m) (fun z : Int × Int × mR => fr kF_fm_open kA_fm_open m z.2.2) := by
  unfold kf_fm_open
  refine RP_ite (fun h1 => ?_) (fun h1 => ?_)
  · skip
    exact RP_w (u_kfl_fm_open_25 v1 m) (fun z hz => (fr_s hz fr_0 rfl rfl))
  · skip
    refine RP_bnd (u_kf_tx_fail 4 (m.1 207) m) (fun y5 h2 => ?_)
    have h3 : fr kF_fm_open kA_fm_open m y5.2.2 := (fr_s h2 fr_0 rfl rfl)
    refine RP_ite (fun h4 => ?_) (fun h4 => ?_)
    · skip
      exact RP_w (u_kfl_fm_open_25 v1 y5.2.2) (fun z hz => (fr_s hz h3 rfl rfl))
    · skip
      exact RP_some h3
def kF_fm_joined : List Nat := [211, 212]
def kA_fm_joined : List Nat := []
def F_kfl_fm_joined_91 : List Nat := [211, 212]
def A_kfl_fm_joined_91 : List Nat := []
theorem u_kfl_fm_joined_91 (v3 : Int) (u1 : Int) (u3 : Int) (m : mR) : RP (kfl_fm_joined_91 v3 u1 u3 m) (fun z : Int × Int × mR => fr F_kfl_fm_joined_91 A_kfl_fm_joined_91 m z.2.2) := by
  unfold kfl_fm_joined_91
  refine RP_bnd (u_kf_tx_fail u1 ((m.2 23) u3) m) (fun y1 h1 => ?_)
  have h2 : fr F_kfl_fm_joined_91 A_kfl_fm_joined_91 m y1.2.2 := (fr_s h1 fr_0 rfl rfl)
  refine RP_ite (fun h3 => ?_) (fun h3 => ?_)
  · skip
    exact RP_some h2
  · skip
    exact RP_some h2
def F_kfl_fm_joined_68 : List Nat := [211, 212]
def A_kfl_fm_joined_68 : List Nat := []
theorem u_kfl_fm_joined_68 (v1 : Int) (v2 : Int) (v3 : Int) (v4 : Int) (m : mR) : RP (kfl_fm_joined_68 v1 v2 v3 v4 m) (fun z : Int × Int × mR => fr F_kfl_fm_joined_68 A_kfl_fm_joined_68 m z.2.2) := by
  unfold kfl_fm_joined_68
  refine RP_ite (fun h1 => ?_) (fun h1 => ?_)
  · skip
    exact RP_w (u_kfl_fm_joined_91 v3 7 v2 m) (fun z hz => (fr_s hz fr_0 rfl rfl))
  · skip
    exact RP_w (u_kfl_fm_joined_91 v3 7 v1 m) (fun z hz => (fr_s hz fr_0 rfl rfl))
def F_kfl_fm_joined_40 : List Nat := [211, 212]
def A_kfl_fm_joined_40 : List Nat := []
theorem u_kfl_fm_joined_40 (v1 : Int) (v2 : Int) (v3 : Int) (u0 : Int) (m : mR) : RP (kfl_fm_joined_40 v1 v2 v3 u0 m) (fun z : Int × Int × mR => fr F_kfl_fm_joined_40 A_kfl_fm_joined_40 m z.2.2) := by
  unfold kfl_fm_joined_40
  refine RP_ite (fun h1 => ?_) (fun h1 => ?_)
  · skip
    refine RP_ite (fun h2 => ?_) (fun h2 => ?_)
    · skip
      exact RP_w (u_kfl_fm_joined_68 v1 v2 v3 u0 m) (fun z hz => (fr_s hz fr_0 rfl rfl))
    · skip
      refine RP_ite (fun h3 => ?_) (fun h3 => ?_)
      · skip
        exact RP_some fr_0
      · skip
        exact RP_w (u_kfl_fm_joined_68 v1 v2 v3 u0 m) (fun z hz => (fr_s hz fr_0 rfl rfl))
  · skip
    exact RP_w (u_kfl_fm_joined_68 v1 v2 v3 u0 m) (fun z hz => (fr_s hz fr_0 rfl rfl))
theorem u_kf_fm_joined (v1 : Int) (v2 : Int) (m : mR) : RP (kf_fm_joined v1 v2 m) (fun z : Int × Int × mR => fr kF_fm_joined kA_fm_joined m z.2.2) := by
  unfold kf_fm_joined
  refine RP_ite (fun h1 => ?_) (fun h1 => ?_)
  · skip
    exact RP_w (u_kfl_fm_joined_40 v1 v2 (cut (((m.2 22) v1) + ((m.2 22) v2))) 1 m) (fun z hz => (fr_s hz fr_0 rfl rfl))
  · skip
    exact RP_w (u_kfl_fm_joined_40 v1 v2 (cut (((m.2 22) v1) + ((m.2 22) v2))) 0 m) (fun z hz => (fr_s hz fr_0 rfl rfl))
def kF_fm_closePair : List Nat := [211, 212, 213, 220, 228, 229]
def kA_fm_closePair : List Nat := [18, 19, 20, 22, 23, 70]
def F_kfl_fm_closePair_144 : List Nat := [213, 220, 228, 229]
def A_kfl_fm_closePair_144 : List Nat := [18, 19, 20, 22, 23, 70]
theorem u_kfl_fm_closePair_144 (v1 : Int) (v2 : Int) (v3 : Int) (v5 : Int) (m : mR) : RP (kfl_fm_closePair_144 v1 v2 v3 v5 m) (fun z : Int × Int × mR => fr F_kfl_fm_closePair_144 A_kfl_fm_closePair_144 m z.2.2) := by
  unfold kfl_fm_closePair_144
  refine RP_bnd (u_kf_fm_add v1 v2 v3 v5 ((m.2 23) v2) (mO m [(228, cut ((m.1 228) - 1)), (229, cut ((m.1 229) - 2))] [])) (fun y1 h1 => ?_)
  have h2 : fr F_kfl_fm_closePair_144 A_kfl_fm_closePair_144 m y1.2 := (fr_s h1 (fr_m fr_0 rfl rfl) rfl rfl)
  exact RP_some h2
def F_kfl_fm_closePair_142 : List Nat := [213, 220, 228, 229]
def A_kfl_fm_closePair_142 : List Nat := [18, 19, 20, 22, 23, 70]
theorem u_kfl_fm_closePair_142 (v1 : Int) (v2 : Int) (v3 : Int) (u0 : Int) (m : mR) : RP (kfl_fm_closePair_142 v1 v2 v3 u0 m) (fun z : Int × Int × mR => fr F_kfl_fm_closePair_142 A_kfl_fm_closePair_142 m z.2.2) := by
  unfold kfl_fm_closePair_142
  exact RP_w (u_kfl_fm_closePair_144 v1 v2 v3 u0 m) (fun z hz => (fr_s hz fr_0 rfl rfl))
def F_kfl_fm_closePair_67 : List Nat := [211, 212, 213, 220, 228, 229]
def A_kfl_fm_closePair_67 : List Nat := [18, 19, 20, 22, 23, 70]
theorem u_kfl_fm_closePair_67 (v1 : Int) (v2 : Int) (v3 : Int) (m : mR) : RP (kfl_fm_closePair_67 v1 v2 v3 m) (fun z : Int × Int × mR => fr F_kfl_fm_closePair_67 A_kfl_fm_closePair_67 m z.2.2) := by
  unfold kfl_fm_closePair_67
  refine RP_bnd (u_kf_fm_agree v2 (-1) m) (fun y4 h1 => ?_)
  have h2 : fr F_kfl_fm_closePair_67 A_kfl_fm_closePair_67 m y4.2.2 := (fr_s h1 fr_0 rfl rfl)
  refine RP_ite (fun h3 => ?_) (fun h3 => ?_)
  · skip
    refine RP_bnd (u_kf_fm_agree v3 (-1) y4.2.2) (fun y7 h4 => ?_)
    have h5 : fr F_kfl_fm_closePair_67 A_kfl_fm_closePair_67 m y7.2.2 := (fr_s h4 h2 rfl rfl)
    refine RP_ite (fun h6 => ?_) (fun h6 => ?_)
    · skip
      exact RP_w (u_kfl_fm_closePair_144 v1 v2 v3 1 y7.2.2) (fun z hz => (fr_s hz h5 rfl rfl))
    · skip
      exact RP_some h5
  · skip
    exact RP_some h2
theorem u_kf_fm_closePair (m : mR) : RP (kf_fm_closePair m) (fun z : Int × Int × mR => fr kF_fm_closePair kA_fm_closePair m z.2.2) := by
  unfold kf_fm_closePair
  refine RP_bndT (fun y10 => ?_)
  refine RP_ite (fun h1 => ?_) (fun h1 => ?_)
  · skip
    exact RP_w (u_kfl_fm_closePair_67 ((m.2 68) (cut ((m.1 228) - 1))) ((m.2 70) (cut ((m.1 229) - 2))) ((m.2 70) (cut ((m.1 229) - 1))) m) (fun z hz => (fr_s hz fr_0 rfl rfl))
  · skip
    refine RP_ite (fun h2 => ?_) (fun h2 => ?_)
    · skip
      exact RP_w (u_kfl_fm_closePair_67 ((m.2 68) (cut ((m.1 228) - 1))) ((m.2 70) (cut ((m.1 229) - 2))) ((m.2 70) (cut ((m.1 229) - 1))) m) (fun z hz => (fr_s hz fr_0 rfl rfl))
    · skip
      refine RP_ite (fun h3 => ?_) (fun h3 => ?_)
      · skip
        refine RP_bnd (u_kf_fm_joined ((m.2 70) (cut ((m.1 229) - 2))) ((m.2 70) (cut ((m.1 229) - 1))) m) (fun y22 h4 => ?_)
        have h5 : fr kF_fm_closePair kA_fm_closePair m y22.2.2 := (fr_s h4 fr_0 rfl rfl)
        refine RP_ite (fun h6 => ?_) (fun h6 => ?_)
        · skip
          exact RP_w (u_kfl_fm_closePair_144 ((m.2 68) (cut ((m.1 228) - 1))) ((m.2 70) (cut ((m.1 229) - 2))) ((m.2 70) (cut ((m.1 229) - 1))) y22.2.1 y22.2.2) (fun z hz => (fr_s hz h5 rfl rfl))
        · skip
          exact RP_some h5
      · skip
        refine RP_ite (fun h7 => ?_) (fun h7 => ?_)
        · skip
          exact RP_w (u_kfl_fm_closePair_144 ((m.2 68) (cut ((m.1 228) - 1))) ((m.2 70) (cut ((m.1 229) - 2))) ((m.2 70) (cut ((m.1 229) - 1))) ((m.2 22) ((m.2 70) (cut ((m.1 229) - 2)))) m) (fun z hz => (fr_s hz fr_0 rfl rfl))
        · skip
          refine RP_ite (fun h8 => ?_) (fun h8 => ?_)
          · skip
            exact RP_w (u_kfl_fm_closePair_144 ((m.2 68) (cut ((m.1 228) - 1))) ((m.2 70) (cut ((m.1 229) - 2))) ((m.2 70) (cut ((m.1 229) - 1))) ((m.2 22) ((m.2 70) (cut ((m.1 229) - 2)))) m) (fun z hz => (fr_s hz fr_0 rfl rfl))
          · skip
            refine RP_bnd (u_kf_fm_agree ((m.2 70) (cut ((m.1 229) - 2))) ((m.2 70) (cut ((m.1 229) - 1))) m) (fun y18 h9 => ?_)
            have h10 : fr kF_fm_closePair kA_fm_closePair m y18.2.2 := (fr_s h9 fr_0 rfl rfl)
            refine RP_ite (fun h11 => ?_) (fun h11 => ?_)
            · skip
              refine RP_ite (fun h12 => ?_) (fun h12 => ?_)
              · skip
                exact RP_w (u_kfl_fm_closePair_142 ((m.2 68) (cut ((m.1 228) - 1))) ((m.2 70) (cut ((m.1 229) - 2))) ((m.2 70) (cut ((m.1 229) - 1))) 1 y18.2.2) (fun z hz => (fr_s hz h10 rfl rfl))
              · skip
                exact RP_w (u_kfl_fm_closePair_142 ((m.2 68) (cut ((m.1 228) - 1))) ((m.2 70) (cut ((m.1 229) - 2))) ((m.2 70) (cut ((m.1 229) - 1))) ((y18.2.2.2 22) ((m.2 70) (cut ((m.1 229) - 2)))) y18.2.2) (fun z hz => (fr_s hz h10 rfl rfl))
            · skip
              exact RP_some h10
def kF_fm_closeSingle : List Nat := [211, 212, 213, 220, 228, 229, 230]
def kA_fm_closeSingle : List Nat := [18, 19, 20, 22, 23, 70]
def F_kfl_fm_closeSingle_74 : List Nat := [213, 220, 228, 229, 230]
def A_kfl_fm_closeSingle_74 : List Nat := [18, 19, 20, 22, 23, 70]
theorem u_kfl_fm_closeSingle_74 (v1 : Int) (v2 : Int) (v3 : Int) (m : mR) : RP (kfl_fm_closeSingle_74 v1 v2 v3 m) (fun z : Int × Int × mR => fr F_kfl_fm_closeSingle_74 A_kfl_fm_closeSingle_74 m z.2.2) := by
  unfold kfl_fm_closeSingle_74
  refine RP_bnd (u_kf_fm_add v1 v2 0 v3 ((m.2 69) (cut ((m.1 228) - 1))) (mO m [(228, cut ((m.1 228) - 1)), (229, cut ((m.1 229) - 1)), (230, cut ((m.1 230) - 1))] [])) (fun y1 h1 => ?_)
  have h2 : fr F_kfl_fm_closeSingle_74 A_kfl_fm_closeSingle_74 m y1.2 := (fr_s h1 (fr_m fr_0 rfl rfl) rfl rfl)
  exact RP_some h2
def F_kfl_fm_closeSingle_43 : List Nat := [211, 212, 213, 220, 228, 229, 230]
def A_kfl_fm_closeSingle_43 : List Nat := [18, 19, 20, 22, 23, 70]
theorem u_kfl_fm_closeSingle_43 (v1 : Int) (v2 : Int) (u0 : Int) (m : mR) : RP (kfl_fm_closeSingle_43 v1 v2 u0 m) (fun z : Int × Int × mR => fr F_kfl_fm_closeSingle_43 A_kfl_fm_closeSingle_43 m z.2.2) := by
  unfold kfl_fm_closeSingle_43
  refine RP_bnd (u_kf_nd_fits v2 u0 m) (fun y4 h1 => ?_)
  have h2 : fr F_kfl_fm_closeSingle_43 A_kfl_fm_closeSingle_43 m y4.2 := (fr_s h1 fr_0 rfl rfl)
  refine RP_ite (fun h3 => ?_) (fun h3 => ?_)
  · skip
    refine RP_bnd (u_kf_tx_fail 7 ((y4.2.2 23) v2) y4.2) (fun y8 h4 => ?_)
    have h5 : fr F_kfl_fm_closeSingle_43 A_kfl_fm_closeSingle_43 m y8.2.2 := (fr_s h4 h2 rfl rfl)
    refine RP_ite (fun h6 => ?_) (fun h6 => ?_)
    · skip
      exact RP_w (u_kfl_fm_closeSingle_74 v1 v2 u0 y8.2.2) (fun z hz => (fr_s hz h5 rfl rfl))
    · skip
      exact RP_some h5
  · skip
    exact RP_w (u_kfl_fm_closeSingle_74 v1 v2 u0 y4.2) (fun z hz => (fr_s hz h2 rfl rfl))
theorem u_kf_fm_closeSingle (m : mR) : RP (kf_fm_closeSingle m) (fun z : Int × Int × mR => fr kF_fm_closeSingle kA_fm_closeSingle m z.2.2) := by
  unfold kf_fm_closeSingle
  refine RP_ite (fun h1 => ?_) (fun h1 => ?_)
  · skip
    exact RP_w (u_kfl_fm_closeSingle_43 ((m.2 68) (cut ((m.1 228) - 1))) ((m.2 70) (cut ((m.1 229) - 1))) 1 m) (fun z hz => (fr_s hz fr_0 rfl rfl))
  · skip
    exact RP_w (u_kfl_fm_closeSingle_43 ((m.2 68) (cut ((m.1 228) - 1))) ((m.2 70) (cut ((m.1 229) - 1))) ((m.2 22) ((m.2 70) (cut ((m.1 229) - 1)))) m) (fun z hz => (fr_s hz fr_0 rfl rfl))
def kF_fm_goesOn : List Nat := [205, 206, 207, 208, 209, 210, 211, 212, 213, 220, 228, 229, 230]
def kA_fm_goesOn : List Nat := [18, 19, 20, 21, 22, 23, 68, 69, 70]
def F_kfl_fm_goesOn_262 : List Nat := []
def A_kfl_fm_goesOn_262 : List Nat := []
theorem u_kfl_fm_goesOn_262 (u0 : Int) (m : mR) : RP (kfl_fm_goesOn_262 u0 m) (fun z : Int × Int × mR => fr F_kfl_fm_goesOn_262 A_kfl_fm_goesOn_262 m z.2.2) := by
  unfold kfl_fm_goesOn_262
  exact RP_some fr_0
def F_kfl_fm_goesOn_247 : List Nat := [205, 206, 207, 208, 209, 210, 211, 212, 228, 230]
def A_kfl_fm_goesOn_247 : List Nat := [23]
theorem u_kfl_fm_goesOn_247 (m : mR) : RP (kfl_fm_goesOn_247 m) (fun z : Int × Int × mR => fr F_kfl_fm_goesOn_247 A_kfl_fm_goesOn_247 m z.2.2) := by
  unfold kfl_fm_goesOn_247
  refine RP_ite (fun h1 => ?_) (fun h1 => ?_)
  · skip
    exact RP_w (u_kfl_fm_goesOn_262 0 m) (fun z hz => (fr_s hz fr_0 rfl rfl))
  · skip
    refine RP_bnd (u_kf_fm_closeBracket m) (fun y6 h2 => ?_)
    have h3 : fr F_kfl_fm_goesOn_247 A_kfl_fm_goesOn_247 m y6.2.2 := (fr_s h2 fr_0 rfl rfl)
    refine RP_ite (fun h4 => ?_) (fun h4 => ?_)
    · skip
      exact RP_w (u_kfl_fm_goesOn_262 y6.2.1 y6.2.2) (fun z hz => (fr_s hz h3 rfl rfl))
    · skip
      exact RP_some h3
def F_kfb_fm_goesOn_221 : List Nat := [211, 212, 213, 220, 228, 229, 230]
def A_kfb_fm_goesOn_221 : List Nat := [18, 19, 20, 21, 22, 23, 70]
theorem u_kfb_fm_goesOn_221 (s : Int × mR) : RP (kfb_fm_goesOn_221 s) (sel (fun z : (Int × mR) => fr F_kfb_fm_goesOn_221 A_kfb_fm_goesOn_221 s.2 z.2) (sel (fun z : (mR) => fr F_kfb_fm_goesOn_221 A_kfb_fm_goesOn_221 s.2 z) (fun z : Int × mR => fr F_kfb_fm_goesOn_221 A_kfb_fm_goesOn_221 s.2 z.2))) := by
  unfold kfb_fm_goesOn_221
  refine RP_ite (fun h1 => ?_) (fun h1 => ?_)
  · skip
    exact RP_some fr_0
  · skip
    refine RP_bndT (fun y11 => ?_)
    refine RP_ite (fun h2 => ?_) (fun h2 => ?_)
    · skip
      refine RP_bnd (u_kf_fm_closeChoice s.2) (fun y15 h3 => ?_)
      have h4 : fr F_kfb_fm_goesOn_221 A_kfb_fm_goesOn_221 s.2 y15.2.2 := (fr_s h3 fr_0 rfl rfl)
      refine RP_ite (fun h5 => ?_) (fun h5 => ?_)
      · skip
        exact RP_some h4
      · skip
        exact RP_some h4
    · skip
      exact RP_some fr_0
theorem uw_kfb_fm_goesOn_221 (s : Int × mR) : RP (whl kfb_fm_goesOn_221 s) (sel (fun z : ((mR)) => fr F_kfb_fm_goesOn_221 A_kfb_fm_goesOn_221 s.2 z) (fun z : Int × mR => fr F_kfb_fm_goesOn_221 A_kfb_fm_goesOn_221 s.2 z.2)) := RP_whl (I := fun q : Int × mR => fr F_kfb_fm_goesOn_221 A_kfb_fm_goesOn_221 s.2 q.2) (fun q hq => RP_w (u_kfb_fm_goesOn_221 q) (sl_w (fun z hz => (fr_s hz hq rfl rfl)) (sl_w (fun z hz => (fr_s hz hq rfl rfl)) (fun z hz => (fr_s hz hq rfl rfl))))) fr_0
def F_kfl_fm_goesOn_182 : List Nat := [205, 206, 207, 208, 209, 210, 211, 212, 213, 220, 228, 229, 230]
def A_kfl_fm_goesOn_182 : List Nat := [18, 19, 20, 21, 22, 23, 68, 70]
theorem u_kfl_fm_goesOn_182 (m : mR) : RP (kfl_fm_goesOn_182 m) (fun z : Int × Int × mR => fr F_kfl_fm_goesOn_182 A_kfl_fm_goesOn_182 m z.2.2) := by
  unfold kfl_fm_goesOn_182
  refine RP_bndT (fun y18 => ?_)
  refine RP_ite (fun h1 => ?_) (fun h1 => ?_)
  · skip
    refine RP_bnd (u_kf_tx_expect 58 m) (fun y27 h2 => ?_)
    have h3 : fr F_kfl_fm_goesOn_182 A_kfl_fm_goesOn_182 m y27.2.2 := (fr_s h2 fr_0 rfl rfl)
    refine RP_ite (fun h4 => ?_) (fun h4 => ?_)
    · skip
      refine RP_bnd (u_kf_fm_deepen (mO y27.2.2 [] [(68, upI (y27.2.2.2 68) (cut ((y27.2.2.1 228) - 1)) 58)])) (fun y30 h5 => ?_)
      have h6 : fr F_kfl_fm_goesOn_182 A_kfl_fm_goesOn_182 m y30.2.2 := (fr_s h5 (fr_m h3 rfl rfl) rfl rfl)
      refine RP_ite (fun h7 => ?_) (fun h7 => ?_)
      · skip
        exact RP_some h6
      · skip
        exact RP_some h6
    · skip
      exact RP_some h3
  · skip
    refine RP_bnd (uw_kfb_fm_goesOn_221 (0, m)) (RP_sl (fun e22 h8 => ?_) (fun e25 h10 => ?_))
    · skip
      have h9 : fr F_kfl_fm_goesOn_182 A_kfl_fm_goesOn_182 m e22 := (fr_s h8 fr_0 rfl rfl)
      exact RP_w (u_kfl_fm_goesOn_247 e22) (fun z hz => (fr_s hz h9 rfl rfl))
    · skip
      have h11 : fr F_kfl_fm_goesOn_182 A_kfl_fm_goesOn_182 m e25.2 := (fr_s h10 fr_0 rfl rfl)
      exact RP_some h11
def F_kfl_fm_goesOn_153 : List Nat := [205, 206, 207, 208, 209, 210, 211, 212, 213, 220, 228, 229, 230]
def A_kfl_fm_goesOn_153 : List Nat := [18, 19, 20, 21, 22, 23, 68, 69, 70]
theorem u_kfl_fm_goesOn_153 (m : mR) : RP (kfl_fm_goesOn_153 m) (fun z : Int × Int × mR => fr F_kfl_fm_goesOn_153 A_kfl_fm_goesOn_153 m z.2.2) := by
  unfold kfl_fm_goesOn_153
  refine RP_ite (fun h1 => ?_) (fun h1 => ?_)
  · skip
    refine RP_bndT (fun y34 => ?_)
    refine RP_ite (fun h2 => ?_) (fun h2 => ?_)
    · skip
      exact RP_w (u_kfl_fm_goesOn_182 m) (fun z hz => (fr_s hz fr_0 rfl rfl))
    · skip
      refine RP_bnd (u_kf_fm_open 63 m) (fun y38 h3 => ?_)
      have h4 : fr F_kfl_fm_goesOn_153 A_kfl_fm_goesOn_153 m y38.2.2 := (fr_s h3 fr_0 rfl rfl)
      refine RP_ite (fun h5 => ?_) (fun h5 => ?_)
      · skip
        exact RP_some h4
      · skip
        exact RP_some h4
  · skip
    exact RP_w (u_kfl_fm_goesOn_182 m) (fun z hz => (fr_s hz fr_0 rfl rfl))
def F_kfb_fm_goesOn_126 : List Nat := [211, 212, 213, 220, 228, 229]
def A_kfb_fm_goesOn_126 : List Nat := [18, 19, 20, 22, 23, 70]
theorem u_kfb_fm_goesOn_126 (s : Int × mR) : RP (kfb_fm_goesOn_126 s) (sel (fun z : (Int × mR) => fr F_kfb_fm_goesOn_126 A_kfb_fm_goesOn_126 s.2 z.2) (sel (fun z : (mR) => fr F_kfb_fm_goesOn_126 A_kfb_fm_goesOn_126 s.2 z) (fun z : Int × mR => fr F_kfb_fm_goesOn_126 A_kfb_fm_goesOn_126 s.2 z.2))) := by
  unfold kfb_fm_goesOn_126
  refine RP_ite (fun h1 => ?_) (fun h1 => ?_)
  · skip
    exact RP_some fr_0
  · skip
    refine RP_bndT (fun y43 => ?_)
    refine RP_bndT (fun y46 => ?_)
    refine RP_ite (fun h2 => ?_) (fun h2 => ?_)
    · skip
      exact RP_some fr_0
    · skip
      refine RP_bnd (u_kf_fm_closePair s.2) (fun y50 h3 => ?_)
      have h4 : fr F_kfb_fm_goesOn_126 A_kfb_fm_goesOn_126 s.2 y50.2.2 := (fr_s h3 fr_0 rfl rfl)
      refine RP_ite (fun h5 => ?_) (fun h5 => ?_)
      · skip
        exact RP_some h4
      · skip
        exact RP_some h4
theorem uw_kfb_fm_goesOn_126 (s : Int × mR) : RP (whl kfb_fm_goesOn_126 s) (sel (fun z : ((mR)) => fr F_kfb_fm_goesOn_126 A_kfb_fm_goesOn_126 s.2 z) (fun z : Int × mR => fr F_kfb_fm_goesOn_126 A_kfb_fm_goesOn_126 s.2 z.2)) := RP_whl (I := fun q : Int × mR => fr F_kfb_fm_goesOn_126 A_kfb_fm_goesOn_126 s.2 q.2) (fun q hq => RP_w (u_kfb_fm_goesOn_126 q) (sl_w (fun z hz => (fr_s hz hq rfl rfl)) (sl_w (fun z hz => (fr_s hz hq rfl rfl)) (fun z hz => (fr_s hz hq rfl rfl))))) fr_0
def F_kfl_fm_goesOn_124 : List Nat := [205, 206, 207, 208, 209, 210, 211, 212, 213, 220, 228, 229, 230]
def A_kfl_fm_goesOn_124 : List Nat := [18, 19, 20, 21, 22, 23, 68, 69, 70]
theorem u_kfl_fm_goesOn_124 (m : mR) : RP (kfl_fm_goesOn_124 m) (fun z : Int × Int × mR => fr F_kfl_fm_goesOn_124 A_kfl_fm_goesOn_124 m z.2.2) := by
  unfold kfl_fm_goesOn_124
  refine RP_bnd (uw_kfb_fm_goesOn_126 (0, m)) (RP_sl (fun e53 h1 => ?_) (fun e56 h3 => ?_))
  · skip
    have h2 : fr F_kfl_fm_goesOn_124 A_kfl_fm_goesOn_124 m e53 := (fr_s h1 fr_0 rfl rfl)
    exact RP_w (u_kfl_fm_goesOn_153 e53) (fun z hz => (fr_s hz h2 rfl rfl))
  · skip
    have h4 : fr F_kfl_fm_goesOn_124 A_kfl_fm_goesOn_124 m e56.2 := (fr_s h3 fr_0 rfl rfl)
    exact RP_some h4
def F_kfl_fm_goesOn_111 : List Nat := [205, 206, 207, 208, 209, 210, 211, 212, 228]
def A_kfl_fm_goesOn_111 : List Nat := [68, 69]
theorem u_kfl_fm_goesOn_111 (m : mR) : RP (kfl_fm_goesOn_111 m) (fun z : Int × Int × mR => fr F_kfl_fm_goesOn_111 A_kfl_fm_goesOn_111 m z.2.2) := by
  unfold kfl_fm_goesOn_111
  refine RP_bnd (u_kf_fm_open (m.1 206) m) (fun y58 h1 => ?_)
  have h2 : fr F_kfl_fm_goesOn_111 A_kfl_fm_goesOn_111 m y58.2.2 := (fr_s h1 fr_0 rfl rfl)
  refine RP_ite (fun h3 => ?_) (fun h3 => ?_)
  · skip
    exact RP_some h2
  · skip
    exact RP_some h2
def F_kfl_fm_goesOn_91 : List Nat := [205, 206, 207, 208, 209, 210, 211, 212, 213, 220, 228, 229, 230]
def A_kfl_fm_goesOn_91 : List Nat := [18, 19, 20, 21, 22, 23, 68, 69, 70]
theorem u_kfl_fm_goesOn_91 (v1 : Int) (m : mR) : RP (kfl_fm_goesOn_91 v1 m) (fun z : Int × Int × mR => fr F_kfl_fm_goesOn_91 A_kfl_fm_goesOn_91 m z.2.2) := by
  unfold kfl_fm_goesOn_91
  refine RP_ite (fun h1 => ?_) (fun h1 => ?_)
  · skip
    exact RP_w (u_kfl_fm_goesOn_124 m) (fun z hz => (fr_s hz fr_0 rfl rfl))
  · skip
    refine RP_ite (fun h2 => ?_) (fun h2 => ?_)
    · skip
      refine RP_bndT (fun y63 => ?_)
      refine RP_bndT (fun y66 => ?_)
      refine RP_ite (fun h3 => ?_) (fun h3 => ?_)
      · skip
        exact RP_w (u_kfl_fm_goesOn_124 m) (fun z hz => (fr_s hz fr_0 rfl rfl))
      · skip
        exact RP_w (u_kfl_fm_goesOn_111 m) (fun z hz => (fr_s hz fr_0 rfl rfl))
    · skip
      exact RP_w (u_kfl_fm_goesOn_111 m) (fun z hz => (fr_s hz fr_0 rfl rfl))
def F_kfb_fm_goesOn_63 : List Nat := [211, 212, 213, 220, 228, 229]
def A_kfb_fm_goesOn_63 : List Nat := [18, 19, 20, 22, 23, 70]
theorem u_kfb_fm_goesOn_63 (v1 : Int) (v2 : Int) (s : Int × mR) : RP (kfb_fm_goesOn_63 v1 v2 s) (sel (fun z : (Int × mR) => fr F_kfb_fm_goesOn_63 A_kfb_fm_goesOn_63 s.2 z.2) (sel (fun z : (mR) => fr F_kfb_fm_goesOn_63 A_kfb_fm_goesOn_63 s.2 z) (fun z : Int × mR => fr F_kfb_fm_goesOn_63 A_kfb_fm_goesOn_63 s.2 z.2))) := by
  unfold kfb_fm_goesOn_63
  refine RP_ite (fun h1 => ?_) (fun h1 => ?_)
  · skip
    exact RP_some fr_0
  · skip
    refine RP_bndT (fun y72 => ?_)
    refine RP_bndT (fun y75 => ?_)
    refine RP_ite (fun h2 => ?_) (fun h2 => ?_)
    · skip
      exact RP_some fr_0
    · skip
      refine RP_bnd (u_kf_fm_closePair s.2) (fun y79 h3 => ?_)
      have h4 : fr F_kfb_fm_goesOn_63 A_kfb_fm_goesOn_63 s.2 y79.2.2 := (fr_s h3 fr_0 rfl rfl)
      refine RP_ite (fun h5 => ?_) (fun h5 => ?_)
      · skip
        exact RP_some h4
      · skip
        exact RP_some h4
theorem uw_kfb_fm_goesOn_63 (v1 : Int) (v2 : Int) (s : Int × mR) : RP (whl (kfb_fm_goesOn_63 v1 v2) s) (sel (fun z : ((mR)) => fr F_kfb_fm_goesOn_63 A_kfb_fm_goesOn_63 s.2 z) (fun z : Int × mR => fr F_kfb_fm_goesOn_63 A_kfb_fm_goesOn_63 s.2 z.2)) := RP_whl (I := fun q : Int × mR => fr F_kfb_fm_goesOn_63 A_kfb_fm_goesOn_63 s.2 q.2) (fun q hq => RP_w (u_kfb_fm_goesOn_63 v1 v2 q) (sl_w (fun z hz => (fr_s hz hq rfl rfl)) (sl_w (fun z hz => (fr_s hz hq rfl rfl)) (fun z hz => (fr_s hz hq rfl rfl))))) fr_0
def F_kfl_fm_goesOn_60 : List Nat := [205, 206, 207, 208, 209, 210, 211, 212, 213, 220, 228, 229, 230]
def A_kfl_fm_goesOn_60 : List Nat := [18, 19, 20, 21, 22, 23, 68, 69, 70]
theorem u_kfl_fm_goesOn_60 (v1 : Int) (u0 : Int) (m : mR) : RP (kfl_fm_goesOn_60 v1 u0 m) (fun z : Int × Int × mR => fr F_kfl_fm_goesOn_60 A_kfl_fm_goesOn_60 m z.2.2) := by
  unfold kfl_fm_goesOn_60
  refine RP_bnd (uw_kfb_fm_goesOn_63 v1 u0 (0, m)) (RP_sl (fun e82 h1 => ?_) (fun e85 h3 => ?_))
  · skip
    have h2 : fr F_kfl_fm_goesOn_60 A_kfl_fm_goesOn_60 m e82 := (fr_s h1 fr_0 rfl rfl)
    exact RP_w (u_kfl_fm_goesOn_91 v1 e82) (fun z hz => (fr_s hz h2 rfl rfl))
  · skip
    have h4 : fr F_kfl_fm_goesOn_60 A_kfl_fm_goesOn_60 m e85.2 := (fr_s h3 fr_0 rfl rfl)
    exact RP_some h4
def F_kfl_fm_goesOn_29 : List Nat := [205, 206, 207, 208, 209, 210, 211, 212, 213, 220, 228, 229, 230]
def A_kfl_fm_goesOn_29 : List Nat := [18, 19, 20, 21, 22, 23, 68, 69, 70]
theorem u_kfl_fm_goesOn_29 (m : mR) : RP (kfl_fm_goesOn_29 m) (fun z : Int × Int × mR => fr F_kfl_fm_goesOn_29 A_kfl_fm_goesOn_29 m z.2.2) := by
  unfold kfl_fm_goesOn_29
  refine RP_bndT (fun y87 => ?_)
  refine RP_ite (fun h1 => ?_) (fun h1 => ?_)
  · skip
    exact RP_w (u_kfl_fm_goesOn_60 y87 1 m) (fun z hz => (fr_s hz fr_0 rfl rfl))
  · skip
    refine RP_ite (fun h2 => ?_) (fun h2 => ?_)
    · skip
      exact RP_w (u_kfl_fm_goesOn_60 y87 (cut (y87 + 1)) m) (fun z hz => (fr_s hz fr_0 rfl rfl))
    · skip
      exact RP_w (u_kfl_fm_goesOn_60 y87 y87 m) (fun z hz => (fr_s hz fr_0 rfl rfl))
def F_kfb_fm_goesOn_2 : List Nat := [211, 212, 213, 220, 228, 229, 230]
def A_kfb_fm_goesOn_2 : List Nat := [18, 19, 20, 22, 23, 70]
theorem u_kfb_fm_goesOn_2 (s : Int × mR) : RP (kfb_fm_goesOn_2 s) (sel (fun z : (Int × mR) => fr F_kfb_fm_goesOn_2 A_kfb_fm_goesOn_2 s.2 z.2) (sel (fun z : (mR) => fr F_kfb_fm_goesOn_2 A_kfb_fm_goesOn_2 s.2 z) (fun z : Int × mR => fr F_kfb_fm_goesOn_2 A_kfb_fm_goesOn_2 s.2 z.2))) := by
  unfold kfb_fm_goesOn_2
  refine RP_ite (fun h1 => ?_) (fun h1 => ?_)
  · skip
    exact RP_some fr_0
  · skip
    refine RP_bndT (fun y94 => ?_)
    refine RP_bndT (fun y97 => ?_)
    refine RP_ite (fun h2 => ?_) (fun h2 => ?_)
    · skip
      exact RP_some fr_0
    · skip
      refine RP_bnd (u_kf_fm_closeSingle s.2) (fun y101 h3 => ?_)
      have h4 : fr F_kfb_fm_goesOn_2 A_kfb_fm_goesOn_2 s.2 y101.2.2 := (fr_s h3 fr_0 rfl rfl)
      refine RP_ite (fun h5 => ?_) (fun h5 => ?_)
      · skip
        exact RP_some h4
      · skip
        exact RP_some h4
theorem uw_kfb_fm_goesOn_2 (s : Int × mR) : RP (whl kfb_fm_goesOn_2 s) (sel (fun z : ((mR)) => fr F_kfb_fm_goesOn_2 A_kfb_fm_goesOn_2 s.2 z) (fun z : Int × mR => fr F_kfb_fm_goesOn_2 A_kfb_fm_goesOn_2 s.2 z.2)) := RP_whl (I := fun q : Int × mR => fr F_kfb_fm_goesOn_2 A_kfb_fm_goesOn_2 s.2 q.2) (fun q hq => RP_w (u_kfb_fm_goesOn_2 q) (sl_w (fun z hz => (fr_s hz hq rfl rfl)) (sl_w (fun z hz => (fr_s hz hq rfl rfl)) (fun z hz => (fr_s hz hq rfl rfl))))) fr_0
theorem u_kf_fm_goesOn (m : mR) : RP (kf_fm_goesOn m) (fun z : Int × Int × mR => fr kF_fm_goesOn kA_fm_goesOn m z.2.2) := by
  unfold kf_fm_goesOn
  refine RP_bnd (uw_kfb_fm_goesOn_2 (0, m)) (RP_sl (fun e104 h1 => ?_) (fun e107 h3 => ?_))
  · skip
    have h2 : fr kF_fm_goesOn kA_fm_goesOn m e104 := (fr_s h1 fr_0 rfl rfl)
    exact RP_w (u_kfl_fm_goesOn_29 e104) (fun z hz => (fr_s hz h2 rfl rfl))
  · skip
    have h4 : fr kF_fm_goesOn kA_fm_goesOn m e107.2 := (fr_s h3 fr_0 rfl rfl)
    exact RP_some h4
