def kF_Arrays_fill0_b10 : List Nat := []
def kA_Arrays_fill0_b10 : List Nat := [10]
def F_kfb_Arrays_fill0_b10_5 : List Nat := []
def A_kfb_Arrays_fill0_b10_5 : List Nat := [10]
theorem u_kfb_Arrays_fill0_b10_5 (v1 : Int) (v3 : Int) (s : Int × mR) : RP (kfb_Arrays_fill0_b10_5 v1 v3 s) (sel (fun z : (Int × mR) => fr F_kfb_Arrays_fill0_b10_5 A_kfb_Arrays_fill0_b10_5 s.2 z.2) (fun z : mR => fr F_kfb_Arrays_fill0_b10_5 A_kfb_Arrays_fill0_b10_5 s.2 z)) := by
  unfold kfb_Arrays_fill0_b10_5
  refine RP_ite (fun h1 => ?_) (fun h1 => ?_)
  · skip
    exact RP_some fr_0
  · skip
    exact RP_some (fr_m fr_0 rfl rfl)
theorem uw_kfb_Arrays_fill0_b10_5 (v1 : Int) (v3 : Int) (s : Int × mR) : RP (whl (kfb_Arrays_fill0_b10_5 v1 v3) s) (fun z : mR => fr F_kfb_Arrays_fill0_b10_5 A_kfb_Arrays_fill0_b10_5 s.2 z) := RP_whl (I := fun q : Int × mR => fr F_kfb_Arrays_fill0_b10_5 A_kfb_Arrays_fill0_b10_5 s.2 q.2) (fun q hq => RP_w (u_kfb_Arrays_fill0_b10_5 v1 v3 q) (sl_w (fun z hz => (fr_s hz hq rfl rfl)) (fun z hz => (fr_s hz hq rfl rfl)))) fr_0
theorem u_kf_Arrays_fill0_b10 (v1 : Int) (m : mR) : RP (kf_Arrays_fill0_b10 v1 m) (fun z : Int × mR => fr kF_Arrays_fill0_b10 kA_Arrays_fill0_b10 m z.2) := by
  unfold kf_Arrays_fill0_b10
  refine RP_bnd (uw_kfb_Arrays_fill0_b10_5 v1 192 (0, m)) (fun e4 h1 => ?_)
  have h2 : fr kF_Arrays_fill0_b10 kA_Arrays_fill0_b10 m e4 := (fr_s h1 fr_0 rfl rfl)
  exact RP_some h2
def kF_Arrays_fill0_b14 : List Nat := []
def kA_Arrays_fill0_b14 : List Nat := [14]
def F_kfb_Arrays_fill0_b14_5 : List Nat := []
def A_kfb_Arrays_fill0_b14_5 : List Nat := [14]
theorem u_kfb_Arrays_fill0_b14_5 (v1 : Int) (v3 : Int) (s : Int × mR) : RP (kfb_Arrays_fill0_b14_5 v1 v3 s) (sel (fun z : (Int × mR) => fr F_kfb_Arrays_fill0_b14_5 A_kfb_Arrays_fill0_b14_5 s.2 z.2) (fun z : mR => fr F_kfb_Arrays_fill0_b14_5 A_kfb_Arrays_fill0_b14_5 s.2 z)) := by
  unfold kfb_Arrays_fill0_b14_5
  refine RP_ite (fun h1 => ?_) (fun h1 => ?_)
  · skip
    exact RP_some fr_0
  · skip
    exact RP_some (fr_m fr_0 rfl rfl)
theorem uw_kfb_Arrays_fill0_b14_5 (v1 : Int) (v3 : Int) (s : Int × mR) : RP (whl (kfb_Arrays_fill0_b14_5 v1 v3) s) (fun z : mR => fr F_kfb_Arrays_fill0_b14_5 A_kfb_Arrays_fill0_b14_5 s.2 z) := RP_whl (I := fun q : Int × mR => fr F_kfb_Arrays_fill0_b14_5 A_kfb_Arrays_fill0_b14_5 s.2 q.2) (fun q hq => RP_w (u_kfb_Arrays_fill0_b14_5 v1 v3 q) (sl_w (fun z hz => (fr_s hz hq rfl rfl)) (fun z hz => (fr_s hz hq rfl rfl)))) fr_0
theorem u_kf_Arrays_fill0_b14 (v1 : Int) (m : mR) : RP (kf_Arrays_fill0_b14 v1 m) (fun z : Int × mR => fr kF_Arrays_fill0_b14 kA_Arrays_fill0_b14 m z.2) := by
  unfold kf_Arrays_fill0_b14
  refine RP_bnd (uw_kfb_Arrays_fill0_b14_5 v1 16 (0, m)) (fun e4 h1 => ?_)
  have h2 : fr kF_Arrays_fill0_b14 kA_Arrays_fill0_b14 m e4 := (fr_s h1 fr_0 rfl rfl)
  exact RP_some h2
def kF_pr_clear : List Nat := [214, 215, 216, 217, 218, 219, 220, 221, 222, 223, 224, 225, 226]
def kA_pr_clear : List Nat := [10, 14]
theorem u_kf_pr_clear (m : mR) : RP (kf_pr_clear m) (fun z : Int × mR => fr kF_pr_clear kA_pr_clear m z.2) := by
  unfold kf_pr_clear
  refine RP_bnd (u_kf_Arrays_fill0_b10 0 m) (fun y1 h1 => ?_)
  have h2 : fr kF_pr_clear kA_pr_clear m y1.2 := (fr_s h1 fr_0 rfl rfl)
  refine RP_bnd (u_kf_Arrays_fill0_b14 16 (mO y1.2 [(214, 0), (215, 0), (216, 3)] [])) (fun y4 h3 => ?_)
  have h4 : fr kF_pr_clear kA_pr_clear m y4.2 := (fr_s h3 (fr_m h2 rfl rfl) rfl rfl)
  exact RP_some (fr_m h4 rfl rfl)
def kF_Arrays_fill1_b71 : List Nat := []
def kA_Arrays_fill1_b71 : List Nat := [71]
def F_kfb_Arrays_fill1_b71_6 : List Nat := []
def A_kfb_Arrays_fill1_b71_6 : List Nat := [71]
theorem u_kfb_Arrays_fill1_b71_6 (v1 : Int) (v4 : Int) (s : Int × mR) : RP (kfb_Arrays_fill1_b71_6 v1 v4 s) (sel (fun z : (Int × mR) => fr F_kfb_Arrays_fill1_b71_6 A_kfb_Arrays_fill1_b71_6 s.2 z.2) (fun z : mR => fr F_kfb_Arrays_fill1_b71_6 A_kfb_Arrays_fill1_b71_6 s.2 z)) := by
  unfold kfb_Arrays_fill1_b71_6
  refine RP_ite (fun h1 => ?_) (fun h1 => ?_)
  · skip
    exact RP_some fr_0
  · skip
    exact RP_some (fr_m fr_0 rfl rfl)
theorem uw_kfb_Arrays_fill1_b71_6 (v1 : Int) (v4 : Int) (s : Int × mR) : RP (whl (kfb_Arrays_fill1_b71_6 v1 v4) s) (fun z : mR => fr F_kfb_Arrays_fill1_b71_6 A_kfb_Arrays_fill1_b71_6 s.2 z) := RP_whl (I := fun q : Int × mR => fr F_kfb_Arrays_fill1_b71_6 A_kfb_Arrays_fill1_b71_6 s.2 q.2) (fun q hq => RP_w (u_kfb_Arrays_fill1_b71_6 v1 v4 q) (sl_w (fun z hz => (fr_s hz hq rfl rfl)) (fun z hz => (fr_s hz hq rfl rfl)))) fr_0
theorem u_kf_Arrays_fill1_b71 (v1 : Int) (m : mR) : RP (kf_Arrays_fill1_b71 v1 m) (fun z : Int × mR => fr kF_Arrays_fill1_b71 kA_Arrays_fill1_b71 m z.2) := by
  unfold kf_Arrays_fill1_b71
  refine RP_bnd (uw_kfb_Arrays_fill1_b71_6 v1 512 (0, m)) (fun e4 h1 => ?_)
  have h2 : fr kF_Arrays_fill1_b71 kA_Arrays_fill1_b71 m e4 := (fr_s h1 fr_0 rfl rfl)
  exact RP_some h2
def kF_pi_clear : List Nat := [232, 233, 234, 235]
def kA_pi_clear : List Nat := [71, 106]
def F_kfb_pi_clear_30 : List Nat := []
def A_kfb_pi_clear_30 : List Nat := [106]
theorem u_kfb_pi_clear_30 (s : Int × mR) : RP (kfb_pi_clear_30 s) (sel (fun z : (Int × mR) => fr F_kfb_pi_clear_30 A_kfb_pi_clear_30 s.2 z.2) (fun z : mR => fr F_kfb_pi_clear_30 A_kfb_pi_clear_30 s.2 z)) := by
  unfold kfb_pi_clear_30
  refine RP_ite (fun h1 => ?_) (fun h1 => ?_)
  · skip
    exact RP_some fr_0
  · skip
    exact RP_some (fr_m fr_0 rfl rfl)
theorem uw_kfb_pi_clear_30 (s : Int × mR) : RP (whl kfb_pi_clear_30 s) (fun z : mR => fr F_kfb_pi_clear_30 A_kfb_pi_clear_30 s.2 z) := RP_whl (I := fun q : Int × mR => fr F_kfb_pi_clear_30 A_kfb_pi_clear_30 s.2 q.2) (fun q hq => RP_w (u_kfb_pi_clear_30 q) (sl_w (fun z hz => (fr_s hz hq rfl rfl)) (fun z hz => (fr_s hz hq rfl rfl)))) fr_0
theorem u_kf_pi_clear (m : mR) : RP (kf_pi_clear m) (fun z : Int × mR => fr kF_pi_clear kA_pi_clear m z.2) := by
  unfold kf_pi_clear
  refine RP_bnd (u_kf_Arrays_fill1_b71 0 (mO m [(232, 0), (233, 0), (234, 0), (235, 0)] [])) (fun y4 h1 => ?_)
  have h2 : fr kF_pi_clear kA_pi_clear m y4.2 := (fr_s h1 (fr_m fr_0 rfl rfl) rfl rfl)
  refine RP_bnd (uw_kfb_pi_clear_30 (0, y4.2)) (fun e7 h3 => ?_)
  have h4 : fr kF_pi_clear kA_pi_clear m e7 := (fr_s h3 h2 rfl rfl)
  exact RP_some h4
def kF_tx_makeName : List Nat := [203]
def kA_tx_makeName : List Nat := [6, 7, 8, 9]
theorem u_kf_tx_makeName (v1 : Int) (v2 : Int) (m : mR) : RP (kf_tx_makeName v1 v2 m) (fun z : Int × mR => fr kF_tx_makeName kA_tx_makeName m z.2) := by
  unfold kf_tx_makeName
  refine RP_ite (fun h1 => ?_) (fun h1 => ?_)
  · skip
    exact RP_some fr_0
  · skip
    exact RP_some (fr_m fr_0 rfl rfl)
def kF_tx_makeGiven_b20001 : List Nat := [203, 209, 210]
def kA_tx_makeGiven_b20001 : List Nat := [6, 7, 8, 9]
def F_kfl_tx_makeGiven_b20001_60 : List Nat := [203]
def A_kfl_tx_makeGiven_b20001_60 : List Nat := [6, 7, 8, 9]
theorem u_kfl_tx_makeGiven_b20001_60 (v2 : Int) (v3 : Int) (m : mR) : RP (kfl_tx_makeGiven_b20001_60 v2 v3 m) (fun z : Int × mR => fr F_kfl_tx_makeGiven_b20001_60 A_kfl_tx_makeGiven_b20001_60 m z.2) := by
  unfold kfl_tx_makeGiven_b20001_60
  refine RP_bnd (u_kf_tx_makeName v2 v3 m) (fun y2 h1 => ?_)
  have h2 : fr F_kfl_tx_makeGiven_b20001_60 A_kfl_tx_makeGiven_b20001_60 m y2.2 := (fr_s h1 fr_0 rfl rfl)
  exact RP_some h2
def F_kfb_tx_makeGiven_b20001_13 : List Nat := [209]
def A_kfb_tx_makeGiven_b20001_13 : List Nat := []
theorem u_kfb_tx_makeGiven_b20001_13 (v2 : Int) (v3 : Int) (s : Int × mR) : RP (kfb_tx_makeGiven_b20001_13 v2 v3 s) (sel (fun z : (Int × mR) => fr F_kfb_tx_makeGiven_b20001_13 A_kfb_tx_makeGiven_b20001_13 s.2 z.2) (fun z : mR => fr F_kfb_tx_makeGiven_b20001_13 A_kfb_tx_makeGiven_b20001_13 s.2 z)) := by
  unfold kfb_tx_makeGiven_b20001_13
  refine RP_bndT (fun y6 => ?_)
  refine RP_ite (fun h1 => ?_) (fun h1 => ?_)
  · skip
    exact RP_some fr_0
  · skip
    refine RP_ite (fun h2 => ?_) (fun h2 => ?_)
    · skip
      exact RP_some fr_0
    · skip
      refine RP_bndT (fun y11 => ?_)
      exact RP_some (fr_m fr_0 rfl rfl)
theorem uw_kfb_tx_makeGiven_b20001_13 (v2 : Int) (v3 : Int) (s : Int × mR) : RP (whl (kfb_tx_makeGiven_b20001_13 v2 v3) s) (fun z : mR => fr F_kfb_tx_makeGiven_b20001_13 A_kfb_tx_makeGiven_b20001_13 s.2 z) := RP_whl (I := fun q : Int × mR => fr F_kfb_tx_makeGiven_b20001_13 A_kfb_tx_makeGiven_b20001_13 s.2 q.2) (fun q hq => RP_w (u_kfb_tx_makeGiven_b20001_13 v2 v3 q) (sl_w (fun z hz => (fr_s hz hq rfl rfl)) (fun z hz => (fr_s hz hq rfl rfl)))) fr_0
theorem u_kf_tx_makeGiven_b20001 (v2 : Int) (v3 : Int) (m : mR) : RP (kf_tx_makeGiven_b20001 v2 v3 m) (fun z : Int × mR => fr kF_tx_makeGiven_b20001 kA_tx_makeGiven_b20001 m z.2) := by
  unfold kf_tx_makeGiven_b20001
  refine RP_bnd (uw_kfb_tx_makeGiven_b20001_13 v2 v3 (0, (mO m [(209, 0), (210, 0)] []))) (fun e14 h1 => ?_)
  have h2 : fr kF_tx_makeGiven_b20001 kA_tx_makeGiven_b20001 m e14 := (fr_s h1 (fr_m fr_0 rfl rfl) rfl rfl)
  exact RP_w (u_kfl_tx_makeGiven_b20001_60 v2 v3 e14) (fun z hz => (fr_s hz h2 rfl rfl))
def kF_tx_makeGiven_b20002 : List Nat := [203, 209, 210]
def kA_tx_makeGiven_b20002 : List Nat := [6, 7, 8, 9]
def F_kfl_tx_makeGiven_b20002_60 : List Nat := [203]
def A_kfl_tx_makeGiven_b20002_60 : List Nat := [6, 7, 8, 9]
theorem u_kfl_tx_makeGiven_b20002_60 (v2 : Int) (v3 : Int) (m : mR) : RP (kfl_tx_makeGiven_b20002_60 v2 v3 m) (fun z : Int × mR => fr F_kfl_tx_makeGiven_b20002_60 A_kfl_tx_makeGiven_b20002_60 m z.2) := by
  unfold kfl_tx_makeGiven_b20002_60
  refine RP_bnd (u_kf_tx_makeName v2 v3 m) (fun y2 h1 => ?_)
  have h2 : fr F_kfl_tx_makeGiven_b20002_60 A_kfl_tx_makeGiven_b20002_60 m y2.2 := (fr_s h1 fr_0 rfl rfl)
  exact RP_some h2
def F_kfb_tx_makeGiven_b20002_13 : List Nat := [209]
def A_kfb_tx_makeGiven_b20002_13 : List Nat := []
theorem u_kfb_tx_makeGiven_b20002_13 (v2 : Int) (v3 : Int) (s : Int × mR) : RP (kfb_tx_makeGiven_b20002_13 v2 v3 s) (sel (fun z : (Int × mR) => fr F_kfb_tx_makeGiven_b20002_13 A_kfb_tx_makeGiven_b20002_13 s.2 z.2) (fun z : mR => fr F_kfb_tx_makeGiven_b20002_13 A_kfb_tx_makeGiven_b20002_13 s.2 z)) := by
  unfold kfb_tx_makeGiven_b20002_13
  refine RP_bndT (fun y6 => ?_)
  refine RP_ite (fun h1 => ?_) (fun h1 => ?_)
  · skip
    exact RP_some fr_0
  · skip
    refine RP_ite (fun h2 => ?_) (fun h2 => ?_)
    · skip
      exact RP_some fr_0
    · skip
      refine RP_bndT (fun y11 => ?_)
      exact RP_some (fr_m fr_0 rfl rfl)
theorem uw_kfb_tx_makeGiven_b20002_13 (v2 : Int) (v3 : Int) (s : Int × mR) : RP (whl (kfb_tx_makeGiven_b20002_13 v2 v3) s) (fun z : mR => fr F_kfb_tx_makeGiven_b20002_13 A_kfb_tx_makeGiven_b20002_13 s.2 z) := RP_whl (I := fun q : Int × mR => fr F_kfb_tx_makeGiven_b20002_13 A_kfb_tx_makeGiven_b20002_13 s.2 q.2) (fun q hq => RP_w (u_kfb_tx_makeGiven_b20002_13 v2 v3 q) (sl_w (fun z hz => (fr_s hz hq rfl rfl)) (fun z hz => (fr_s hz hq rfl rfl)))) fr_0
theorem u_kf_tx_makeGiven_b20002 (v2 : Int) (v3 : Int) (m : mR) : RP (kf_tx_makeGiven_b20002 v2 v3 m) (fun z : Int × mR => fr kF_tx_makeGiven_b20002 kA_tx_makeGiven_b20002 m z.2) := by
  unfold kf_tx_makeGiven_b20002
  refine RP_bnd (uw_kfb_tx_makeGiven_b20002_13 v2 v3 (0, (mO m [(209, 0), (210, 0)] []))) (fun e14 h1 => ?_)
  have h2 : fr kF_tx_makeGiven_b20002 kA_tx_makeGiven_b20002 m e14 := (fr_s h1 (fr_m fr_0 rfl rfl) rfl rfl)
  exact RP_w (u_kfl_tx_makeGiven_b20002_60 v2 v3 e14) (fun z hz => (fr_s hz h2 rfl rfl))
def kF_tx_makeGiven_b20003 : List Nat := [203, 209, 210]
def kA_tx_makeGiven_b20003 : List Nat := [6, 7, 8, 9]
def F_kfl_tx_makeGiven_b20003_60 : List Nat := [203]
def A_kfl_tx_makeGiven_b20003_60 : List Nat := [6, 7, 8, 9]
theorem u_kfl_tx_makeGiven_b20003_60 (v2 : Int) (v3 : Int) (m : mR) : RP (kfl_tx_makeGiven_b20003_60 v2 v3 m) (fun z : Int × mR => fr F_kfl_tx_makeGiven_b20003_60 A_kfl_tx_makeGiven_b20003_60 m z.2) := by
  unfold kfl_tx_makeGiven_b20003_60
  refine RP_bnd (u_kf_tx_makeName v2 v3 m) (fun y2 h1 => ?_)
  have h2 : fr F_kfl_tx_makeGiven_b20003_60 A_kfl_tx_makeGiven_b20003_60 m y2.2 := (fr_s h1 fr_0 rfl rfl)
  exact RP_some h2
def F_kfb_tx_makeGiven_b20003_13 : List Nat := [209]
def A_kfb_tx_makeGiven_b20003_13 : List Nat := []
theorem u_kfb_tx_makeGiven_b20003_13 (v2 : Int) (v3 : Int) (s : Int × mR) : RP (kfb_tx_makeGiven_b20003_13 v2 v3 s) (sel (fun z : (Int × mR) => fr F_kfb_tx_makeGiven_b20003_13 A_kfb_tx_makeGiven_b20003_13 s.2 z.2) (fun z : mR => fr F_kfb_tx_makeGiven_b20003_13 A_kfb_tx_makeGiven_b20003_13 s.2 z)) := by
  unfold kfb_tx_makeGiven_b20003_13
  refine RP_bndT (fun y6 => ?_)
  refine RP_ite (fun h1 => ?_) (fun h1 => ?_)
  · skip
    exact RP_some fr_0
  · skip
    refine RP_ite (fun h2 => ?_) (fun h2 => ?_)
    · skip
      exact RP_some fr_0
    · skip
      refine RP_bndT (fun y11 => ?_)
      exact RP_some (fr_m fr_0 rfl rfl)
theorem uw_kfb_tx_makeGiven_b20003_13 (v2 : Int) (v3 : Int) (s : Int × mR) : RP (whl (kfb_tx_makeGiven_b20003_13 v2 v3) s) (fun z : mR => fr F_kfb_tx_makeGiven_b20003_13 A_kfb_tx_makeGiven_b20003_13 s.2 z) := RP_whl (I := fun q : Int × mR => fr F_kfb_tx_makeGiven_b20003_13 A_kfb_tx_makeGiven_b20003_13 s.2 q.2) (fun q hq => RP_w (u_kfb_tx_makeGiven_b20003_13 v2 v3 q) (sl_w (fun z hz => (fr_s hz hq rfl rfl)) (fun z hz => (fr_s hz hq rfl rfl)))) fr_0
theorem u_kf_tx_makeGiven_b20003 (v2 : Int) (v3 : Int) (m : mR) : RP (kf_tx_makeGiven_b20003 v2 v3 m) (fun z : Int × mR => fr kF_tx_makeGiven_b20003 kA_tx_makeGiven_b20003 m z.2) := by
  unfold kf_tx_makeGiven_b20003
  refine RP_bnd (uw_kfb_tx_makeGiven_b20003_13 v2 v3 (0, (mO m [(209, 0), (210, 0)] []))) (fun e14 h1 => ?_)
  have h2 : fr kF_tx_makeGiven_b20003 kA_tx_makeGiven_b20003 m e14 := (fr_s h1 (fr_m fr_0 rfl rfl) rfl rfl)
  exact RP_w (u_kfl_tx_makeGiven_b20003_60 v2 v3 e14) (fun z hz => (fr_s hz h2 rfl rfl))
def kF_tx_makeGiven_b20004 : List Nat := [203, 209, 210]
def kA_tx_makeGiven_b20004 : List Nat := [6, 7, 8, 9]
def F_kfl_tx_makeGiven_b20004_60 : List Nat := [203]
def A_kfl_tx_makeGiven_b20004_60 : List Nat := [6, 7, 8, 9]
theorem u_kfl_tx_makeGiven_b20004_60 (v2 : Int) (v3 : Int) (m : mR) : RP (kfl_tx_makeGiven_b20004_60 v2 v3 m) (fun z : Int × mR => fr F_kfl_tx_makeGiven_b20004_60 A_kfl_tx_makeGiven_b20004_60 m z.2) := by
  unfold kfl_tx_makeGiven_b20004_60
  refine RP_bnd (u_kf_tx_makeName v2 v3 m) (fun y2 h1 => ?_)
  have h2 : fr F_kfl_tx_makeGiven_b20004_60 A_kfl_tx_makeGiven_b20004_60 m y2.2 := (fr_s h1 fr_0 rfl rfl)
  exact RP_some h2
def F_kfb_tx_makeGiven_b20004_13 : List Nat := [209]
def A_kfb_tx_makeGiven_b20004_13 : List Nat := []
theorem u_kfb_tx_makeGiven_b20004_13 (v2 : Int) (v3 : Int) (s : Int × mR) : RP (kfb_tx_makeGiven_b20004_13 v2 v3 s) (sel (fun z : (Int × mR) => fr F_kfb_tx_makeGiven_b20004_13 A_kfb_tx_makeGiven_b20004_13 s.2 z.2) (fun z : mR => fr F_kfb_tx_makeGiven_b20004_13 A_kfb_tx_makeGiven_b20004_13 s.2 z)) := by
  unfold kfb_tx_makeGiven_b20004_13
  refine RP_bndT (fun y6 => ?_)
  refine RP_ite (fun h1 => ?_) (fun h1 => ?_)
  · skip
    exact RP_some fr_0
  · skip
    refine RP_ite (fun h2 => ?_) (fun h2 => ?_)
    · skip
      exact RP_some fr_0
    · skip
      refine RP_bndT (fun y11 => ?_)
      exact RP_some (fr_m fr_0 rfl rfl)
theorem uw_kfb_tx_makeGiven_b20004_13 (v2 : Int) (v3 : Int) (s : Int × mR) : RP (whl (kfb_tx_makeGiven_b20004_13 v2 v3) s) (fun z : mR => fr F_kfb_tx_makeGiven_b20004_13 A_kfb_tx_makeGiven_b20004_13 s.2 z) := RP_whl (I := fun q : Int × mR => fr F_kfb_tx_makeGiven_b20004_13 A_kfb_tx_makeGiven_b20004_13 s.2 q.2) (fun q hq => RP_w (u_kfb_tx_makeGiven_b20004_13 v2 v3 q) (sl_w (fun z hz => (fr_s hz hq rfl rfl)) (fun z hz => (fr_s hz hq rfl rfl)))) fr_0
theorem u_kf_tx_makeGiven_b20004 (v2 : Int) (v3 : Int) (m : mR) : RP (kf_tx_makeGiven_b20004 v2 v3 m) (fun z : Int × mR => fr kF_tx_makeGiven_b20004 kA_tx_makeGiven_b20004 m z.2) := by
  unfold kf_tx_makeGiven_b20004
  refine RP_bnd (uw_kfb_tx_makeGiven_b20004_13 v2 v3 (0, (mO m [(209, 0), (210, 0)] []))) (fun e14 h1 => ?_)
  have h2 : fr kF_tx_makeGiven_b20004 kA_tx_makeGiven_b20004 m e14 := (fr_s h1 (fr_m fr_0 rfl rfl) rfl rfl)
  exact RP_w (u_kfl_tx_makeGiven_b20004_60 v2 v3 e14) (fun z hz => (fr_s hz h2 rfl rfl))
def kF_tx_makeGiven_b20005 : List Nat := [203, 209, 210]
def kA_tx_makeGiven_b20005 : List Nat := [6, 7, 8, 9]
def F_kfl_tx_makeGiven_b20005_60 : List Nat := [203]
def A_kfl_tx_makeGiven_b20005_60 : List Nat := [6, 7, 8, 9]
theorem u_kfl_tx_makeGiven_b20005_60 (v2 : Int) (v3 : Int) (m : mR) : RP (kfl_tx_makeGiven_b20005_60 v2 v3 m) (fun z : Int × mR => fr F_kfl_tx_makeGiven_b20005_60 A_kfl_tx_makeGiven_b20005_60 m z.2) := by
  unfold kfl_tx_makeGiven_b20005_60
  refine RP_bnd (u_kf_tx_makeName v2 v3 m) (fun y2 h1 => ?_)
  have h2 : fr F_kfl_tx_makeGiven_b20005_60 A_kfl_tx_makeGiven_b20005_60 m y2.2 := (fr_s h1 fr_0 rfl rfl)
  exact RP_some h2
def F_kfb_tx_makeGiven_b20005_13 : List Nat := [209]
def A_kfb_tx_makeGiven_b20005_13 : List Nat := []
theorem u_kfb_tx_makeGiven_b20005_13 (v2 : Int) (v3 : Int) (s : Int × mR) : RP (kfb_tx_makeGiven_b20005_13 v2 v3 s) (sel (fun z : (Int × mR) => fr F_kfb_tx_makeGiven_b20005_13 A_kfb_tx_makeGiven_b20005_13 s.2 z.2) (fun z : mR => fr F_kfb_tx_makeGiven_b20005_13 A_kfb_tx_makeGiven_b20005_13 s.2 z)) := by
  unfold kfb_tx_makeGiven_b20005_13
  refine RP_bndT (fun y6 => ?_)
  refine RP_ite (fun h1 => ?_) (fun h1 => ?_)
  · skip
    exact RP_some fr_0
  · skip
    refine RP_ite (fun h2 => ?_) (fun h2 => ?_)
    · skip
      exact RP_some fr_0
    · skip
      refine RP_bndT (fun y11 => ?_)
      exact RP_some (fr_m fr_0 rfl rfl)
theorem uw_kfb_tx_makeGiven_b20005_13 (v2 : Int) (v3 : Int) (s : Int × mR) : RP (whl (kfb_tx_makeGiven_b20005_13 v2 v3) s) (fun z : mR => fr F_kfb_tx_makeGiven_b20005_13 A_kfb_tx_makeGiven_b20005_13 s.2 z) := RP_whl (I := fun q : Int × mR => fr F_kfb_tx_makeGiven_b20005_13 A_kfb_tx_makeGiven_b20005_13 s.2 q.2) (fun q hq => RP_w (u_kfb_tx_makeGiven_b20005_13 v2 v3 q) (sl_w (fun z hz => (fr_s hz hq rfl rfl)) (fun z hz => (fr_s hz hq rfl rfl)))) fr_0
theorem u_kf_tx_makeGiven_b20005 (v2 : Int) (v3 : Int) (m : mR) : RP (kf_tx_makeGiven_b20005 v2 v3 m) (fun z : Int × mR => fr kF_tx_makeGiven_b20005 kA_tx_makeGiven_b20005 m z.2) := by
  unfold kf_tx_makeGiven_b20005
  refine RP_bnd (uw_kfb_tx_makeGiven_b20005_13 v2 v3 (0, (mO m [(209, 0), (210, 0)] []))) (fun e14 h1 => ?_)
  have h2 : fr kF_tx_makeGiven_b20005 kA_tx_makeGiven_b20005 m e14 := (fr_s h1 (fr_m fr_0 rfl rfl) rfl rfl)
  exact RP_w (u_kfl_tx_makeGiven_b20005_60 v2 v3 e14) (fun z hz => (fr_s hz h2 rfl rfl))
def kF_tx_scanSign : List Nat := [205]
def kA_tx_scanSign : List Nat := []
def F_kfl_tx_scanSign_128 : List Nat := []
def A_kfl_tx_scanSign_128 : List Nat := []
theorem u_kfl_tx_scanSign_128 (u0 : Int) (m : mR) : RP (kfl_tx_scanSign_128 u0 m) (fun z : Int × mR => fr F_kfl_tx_scanSign_128 A_kfl_tx_scanSign_128 m z.2) := by
  unfold kfl_tx_scanSign_128
  exact RP_some fr_0
def F_kfl_tx_scanSign_108 : List Nat := [205]
def A_kfl_tx_scanSign_108 : List Nat := []
theorem u_kfl_tx_scanSign_108 (v1 : Int) (v2 : Int) (v4 : Int) (u1 : Int) (u2 : Int) (m : mR) : RP (kfl_tx_scanSign_108 v1 v2 v4 u1 u2 m) (fun z : Int × mR => fr F_kfl_tx_scanSign_108 A_kfl_tx_scanSign_108 m z.2) := by
  unfold kfl_tx_scanSign_108
  refine RP_ite (fun h1 => ?_) (fun h1 => ?_)
  · skip
    exact RP_w (u_kfl_tx_scanSign_128 v1 (mO m [(205, cut (u1 + u2))] [])) (fun z hz => (fr_s hz (fr_m fr_0 rfl rfl) rfl rfl))
  · skip
    exact RP_w (u_kfl_tx_scanSign_128 (cut ((cut (v1 * 256)) + v2)) (mO m [(205, cut (u1 + u2))] [])) (fun z hz => (fr_s hz (fr_m fr_0 rfl rfl) rfl rfl))
def F_kfl_tx_scanSign_91 : List Nat := [205]
def A_kfl_tx_scanSign_91 : List Nat := []
theorem u_kfl_tx_scanSign_91 (v1 : Int) (v2 : Int) (u0 : Int) (m : mR) : RP (kfl_tx_scanSign_91 v1 v2 u0 m) (fun z : Int × mR => fr F_kfl_tx_scanSign_91 A_kfl_tx_scanSign_91 m z.2) := by
  unfold kfl_tx_scanSign_91
  refine RP_ite (fun h1 => ?_) (fun h1 => ?_)
  · skip
    exact RP_w (u_kfl_tx_scanSign_108 v1 v2 u0 (m.1 205) 1 m) (fun z hz => (fr_s hz fr_0 rfl rfl))
  · skip
    exact RP_w (u_kfl_tx_scanSign_108 v1 v2 u0 (m.1 205) 2 m) (fun z hz => (fr_s hz fr_0 rfl rfl))
def F_kfl_tx_scanSign_90 : List Nat := [205]
def A_kfl_tx_scanSign_90 : List Nat := []
theorem u_kfl_tx_scanSign_90 (v1 : Int) (v2 : Int) (m : mR) : RP (kfl_tx_scanSign_90 v1 v2 m) (fun z : Int × mR => fr F_kfl_tx_scanSign_90 A_kfl_tx_scanSign_90 m z.2) := by
  unfold kfl_tx_scanSign_90
  exact RP_w (u_kfl_tx_scanSign_91 v1 v2 0 m) (fun z hz => (fr_s hz fr_0 rfl rfl))
def F_kfl_tx_scanSign_86 : List Nat := [205]
def A_kfl_tx_scanSign_86 : List Nat := []
theorem u_kfl_tx_scanSign_86 (v1 : Int) (v2 : Int) (m : mR) : RP (kfl_tx_scanSign_86 v1 v2 m) (fun z : Int × mR => fr F_kfl_tx_scanSign_86 A_kfl_tx_scanSign_86 m z.2) := by
  unfold kfl_tx_scanSign_86
  exact RP_w (u_kfl_tx_scanSign_91 v1 v2 1 m) (fun z hz => (fr_s hz fr_0 rfl rfl))
def F_kfl_tx_scanSign_65 : List Nat := [205]
def A_kfl_tx_scanSign_65 : List Nat := []
theorem u_kfl_tx_scanSign_65 (v1 : Int) (v2 : Int) (u0 : Int) (m : mR) : RP (kfl_tx_scanSign_65 v1 v2 u0 m) (fun z : Int × mR => fr F_kfl_tx_scanSign_65 A_kfl_tx_scanSign_65 m z.2) := by
  unfold kfl_tx_scanSign_65
  refine RP_ite (fun h1 => ?_) (fun h1 => ?_)
  · skip
    refine RP_ite (fun h2 => ?_) (fun h2 => ?_)
    · skip
      refine RP_bndT (fun y5 => ?_)
      refine RP_ite (fun h3 => ?_) (fun h3 => ?_)
      · skip
        exact RP_w (u_kfl_tx_scanSign_90 v1 v2 m) (fun z hz => (fr_s hz fr_0 rfl rfl))
      · skip
        exact RP_w (u_kfl_tx_scanSign_86 v1 v2 m) (fun z hz => (fr_s hz fr_0 rfl rfl))
    · skip
      exact RP_w (u_kfl_tx_scanSign_90 v1 v2 m) (fun z hz => (fr_s hz fr_0 rfl rfl))
  · skip
    exact RP_w (u_kfl_tx_scanSign_86 v1 v2 m) (fun z hz => (fr_s hz fr_0 rfl rfl))
def F_kfl_tx_scanSign_64 : List Nat := [205]
def A_kfl_tx_scanSign_64 : List Nat := []
theorem u_kfl_tx_scanSign_64 (v1 : Int) (v2 : Int) (m : mR) : RP (kfl_tx_scanSign_64 v1 v2 m) (fun z : Int × mR => fr F_kfl_tx_scanSign_64 A_kfl_tx_scanSign_64 m z.2) := by
  unfold kfl_tx_scanSign_64
  exact RP_w (u_kfl_tx_scanSign_65 v1 v2 0 m) (fun z hz => (fr_s hz fr_0 rfl rfl))
def F_kfl_tx_scanSign_44 : List Nat := [205]
def A_kfl_tx_scanSign_44 : List Nat := []
theorem u_kfl_tx_scanSign_44 (v1 : Int) (u0 : Int) (m : mR) : RP (kfl_tx_scanSign_44 v1 u0 m) (fun z : Int × mR => fr F_kfl_tx_scanSign_44 A_kfl_tx_scanSign_44 m z.2) := by
  unfold kfl_tx_scanSign_44
  refine RP_ite (fun h1 => ?_) (fun h1 => ?_)
  · skip
    refine RP_bndT (fun y10 => ?_)
    refine RP_ite (fun h2 => ?_) (fun h2 => ?_)
    · skip
      exact RP_w (u_kfl_tx_scanSign_64 v1 u0 m) (fun z hz => (fr_s hz fr_0 rfl rfl))
    · skip
      exact RP_w (u_kfl_tx_scanSign_65 v1 u0 1 m) (fun z hz => (fr_s hz fr_0 rfl rfl))
  · skip
    exact RP_w (u_kfl_tx_scanSign_64 v1 u0 m) (fun z hz => (fr_s hz fr_0 rfl rfl))
theorem u_kf_tx_scanSign (v1 : Int) (m : mR) : RP (kf_tx_scanSign v1 m) (fun z : Int × mR => fr kF_tx_scanSign kA_tx_scanSign m z.2) := by
  unfold kf_tx_scanSign
  refine RP_bndT (fun y14 => ?_)
  refine RP_ite (fun h1 => ?_) (fun h1 => ?_)
  · skip
    refine RP_ite (fun h2 => ?_) (fun h2 => ?_)
    · skip
      exact RP_w (u_kfl_tx_scanSign_44 v1 0 m) (fun z hz => (fr_s hz fr_0 rfl rfl))
    · skip
      exact RP_w (u_kfl_tx_scanSign_44 v1 (and32 ((m.2 1) (cut ((m.1 205) + 1))) 255) m) (fun z hz => (fr_s hz fr_0 rfl rfl))
  · skip
    exact RP_some fr_0
def kF_tx_fail : List Nat := [211, 212]
def kA_tx_fail : List Nat := []
def F_kfl_tx_fail_45 : List Nat := [212]
def A_kfl_tx_fail_45 : List Nat := []
theorem u_kfl_tx_fail_45 (u1 : Int) (m : mR) : RP (kfl_tx_fail_45 u1 m) (fun z : Int × Int × mR => fr F_kfl_tx_fail_45 A_kfl_tx_fail_45 m z.2.2) := by
  unfold kfl_tx_fail_45
  exact RP_some (fr_m fr_0 rfl rfl)
def F_kfl_tx_fail_29 : List Nat := [211, 212]
def A_kfl_tx_fail_29 : List Nat := []
theorem u_kfl_tx_fail_29 (v2 : Int) (v3 : Int) (u1 : Int) (m : mR) : RP (kfl_tx_fail_29 v2 v3 u1 m) (fun z : Int × Int × mR => fr F_kfl_tx_fail_29 A_kfl_tx_fail_29 m z.2.2) := by
  unfold kfl_tx_fail_29
  refine RP_ite (fun h1 => ?_) (fun h1 => ?_)
  · skip
    exact RP_w (u_kfl_tx_fail_45 v2 (mO m [(211, u1)] [])) (fun z hz => (fr_s hz (fr_m fr_0 rfl rfl) rfl rfl))
  · skip
    exact RP_w (u_kfl_tx_fail_45 (m.1 207) (mO m [(211, u1)] [])) (fun z hz => (fr_s hz (fr_m fr_0 rfl rfl) rfl rfl))
def F_kfl_tx_fail_18 : List Nat := [211, 212]
def A_kfl_tx_fail_18 : List Nat := []
theorem u_kfl_tx_fail_18 (v1 : Int) (v2 : Int) (u0 : Int) (m : mR) : RP (kfl_tx_fail_18 v1 v2 u0 m) (fun z : Int × Int × mR => fr F_kfl_tx_fail_18 A_kfl_tx_fail_18 m z.2.2) := by
  unfold kfl_tx_fail_18
  refine RP_ite (fun h1 => ?_) (fun h1 => ?_)
  · skip
    exact RP_w (u_kfl_tx_fail_29 v2 u0 v1 m) (fun z hz => (fr_s hz fr_0 rfl rfl))
  · skip
    exact RP_w (u_kfl_tx_fail_29 v2 u0 4 m) (fun z hz => (fr_s hz fr_0 rfl rfl))
def F_kfl_tx_fail_17 : List Nat := [211, 212]
def A_kfl_tx_fail_17 : List Nat := []
theorem u_kfl_tx_fail_17 (v1 : Int) (v2 : Int) (m : mR) : RP (kfl_tx_fail_17 v1 v2 m) (fun z : Int × Int × mR => fr F_kfl_tx_fail_17 A_kfl_tx_fail_17 m z.2.2) := by
  unfold kfl_tx_fail_17
  exact RP_w (u_kfl_tx_fail_18 v1 v2 0 m) (fun z hz => (fr_s hz fr_0 rfl rfl))
theorem u_kf_tx_fail (v1 : Int) (v2 : Int) (m : mR) : RP (kf_tx_fail v1 v2 m) (fun z : Int × Int × mR => fr kF_tx_fail kA_tx_fail m z.2.2) := by
  unfold kf_tx_fail
  refine RP_ite (fun h1 => ?_) (fun h1 => ?_)
  · skip
    exact RP_w (u_kfl_tx_fail_17 v1 v2 m) (fun z hz => (fr_s hz fr_0 rfl rfl))
  · skip
    refine RP_ite (fun h2 => ?_) (fun h2 => ?_)
    · skip
      exact RP_w (u_kfl_tx_fail_17 v1 v2 m) (fun z hz => (fr_s hz fr_0 rfl rfl))
    · skip
      exact RP_w (u_kfl_tx_fail_18 v1 v2 1 m) (fun z hz => (fr_s hz fr_0 rfl rfl))
def kF_tx_scanDecimal : List Nat := [205, 208]
def kA_tx_scanDecimal : List Nat := []
def F_kfl_tx_scanDecimal_104 : List Nat := []
def A_kfl_tx_scanDecimal_104 : List Nat := []
theorem u_kfl_tx_scanDecimal_104 (u0 : Int) (m : mR) : RP (kfl_tx_scanDecimal_104 u0 m) (fun z : Int × mR => fr F_kfl_tx_scanDecimal_104 A_kfl_tx_scanDecimal_104 m z.2) := by
  unfold kfl_tx_scanDecimal_104
  exact RP_some fr_0
def F_kfl_tx_scanDecimal_83 : List Nat := []
def A_kfl_tx_scanDecimal_83 : List Nat := []
theorem u_kfl_tx_scanDecimal_83 (m : mR) : RP (kfl_tx_scanDecimal_83 m) (fun z : Int × mR => fr F_kfl_tx_scanDecimal_83 A_kfl_tx_scanDecimal_83 m z.2) := by
  unfold kfl_tx_scanDecimal_83
  refine RP_ite (fun h1 => ?_) (fun h1 => ?_)
  · skip
    exact RP_w (u_kfl_tx_scanDecimal_104 257 m) (fun z hz => (fr_s hz fr_0 rfl rfl))
  · skip
    exact RP_w (u_kfl_tx_scanDecimal_104 (-1) m) (fun z hz => (fr_s hz fr_0 rfl rfl))
def F_kfb_tx_scanDecimal_5 : List Nat := [205, 208]
def A_kfb_tx_scanDecimal_5 : List Nat := []
theorem u_kfb_tx_scanDecimal_5 (s : mR) : RP (kfb_tx_scanDecimal_5 s) (sel (fun z : (mR) => fr F_kfb_tx_scanDecimal_5 A_kfb_tx_scanDecimal_5 s z) (fun z : mR => fr F_kfb_tx_scanDecimal_5 A_kfb_tx_scanDecimal_5 s z)) := by
  unfold kfb_tx_scanDecimal_5
  refine RP_ite (fun h1 => ?_) (fun h1 => ?_)
  · skip
    exact RP_some fr_0
  · skip
    refine RP_ite (fun h2 => ?_) (fun h2 => ?_)
    · skip
      exact RP_some fr_0
    · skip
      refine RP_ite (fun h3 => ?_) (fun h3 => ?_)
      · skip
        exact RP_some fr_0
      · skip
        exact RP_some (fr_m fr_0 rfl rfl)
theorem uw_kfb_tx_scanDecimal_5 (s : mR) : RP (whl kfb_tx_scanDecimal_5 s) (fun z : mR => fr F_kfb_tx_scanDecimal_5 A_kfb_tx_scanDecimal_5 s z) := RP_whl (I := fun q : mR => fr F_kfb_tx_scanDecimal_5 A_kfb_tx_scanDecimal_5 s q) (fun q hq => RP_w (u_kfb_tx_scanDecimal_5 q) (sl_w (fun z hz => (fr_s hz hq rfl rfl)) (fun z hz => (fr_s hz hq rfl rfl)))) fr_0
theorem u_kf_tx_scanDecimal (m : mR) : RP (kf_tx_scanDecimal m) (fun z : Int × mR => fr kF_tx_scanDecimal kA_tx_scanDecimal m z.2) := by
  unfold kf_tx_scanDecimal
  refine RP_bnd (uw_kfb_tx_scanDecimal_5 (mO m [(208, 0)] [])) (fun e7 h1 => ?_)
  have h2 : fr kF_tx_scanDecimal kA_tx_scanDecimal m e7 := (fr_s h1 (fr_m fr_0 rfl rfl) rfl rfl)
  exact RP_w (u_kfl_tx_scanDecimal_83 e7) (fun z hz => (fr_s hz h2 rfl rfl))
def kF_tx_scanHex : List Nat := [205, 208]
def kA_tx_scanHex : List Nat := []
def F_kfl_tx_scanHex_159 : List Nat := []
def A_kfl_tx_scanHex_159 : List Nat := []
theorem u_kfl_tx_scanHex_159 (u0 : Int) (m : mR) : RP (kfl_tx_scanHex_159 u0 m) (fun z : Int × mR => fr F_kfl_tx_scanHex_159 A_kfl_tx_scanHex_159 m z.2) := by
  unfold kfl_tx_scanHex_159
  exact RP_some fr_0
def F_kfl_tx_scanHex_152 : List Nat := []
def A_kfl_tx_scanHex_152 : List Nat := []
theorem u_kfl_tx_scanHex_152 (m : mR) : RP (kfl_tx_scanHex_152 m) (fun z : Int × mR => fr F_kfl_tx_scanHex_152 A_kfl_tx_scanHex_152 m z.2) := by
  unfold kfl_tx_scanHex_152
  exact RP_w (u_kfl_tx_scanHex_159 (-1) m) (fun z hz => (fr_s hz fr_0 rfl rfl))
def F_kfl_tx_scanHex_129 : List Nat := []
def A_kfl_tx_scanHex_129 : List Nat := []
theorem u_kfl_tx_scanHex_129 (m : mR) : RP (kfl_tx_scanHex_129 m) (fun z : Int × mR => fr F_kfl_tx_scanHex_129 A_kfl_tx_scanHex_129 m z.2) := by
  unfold kfl_tx_scanHex_129
  refine RP_ite (fun h1 => ?_) (fun h1 => ?_)
  · skip
    exact RP_w (u_kfl_tx_scanHex_152 m) (fun z hz => (fr_s hz fr_0 rfl rfl))
  · skip
    refine RP_ite (fun h2 => ?_) (fun h2 => ?_)
    · skip
      exact RP_w (u_kfl_tx_scanHex_159 257 m) (fun z hz => (fr_s hz fr_0 rfl rfl))
    · skip
      exact RP_w (u_kfl_tx_scanHex_152 m) (fun z hz => (fr_s hz fr_0 rfl rfl))
def F_kfl_tx_scanHex_126 : List Nat := []
def A_kfl_tx_scanHex_126 : List Nat := []
theorem u_kfl_tx_scanHex_126 (v1 : Int) (m : mR) : RP (kfl_tx_scanHex_126 v1 m) (sel (fun z : (Int × mR) => fr F_kfl_tx_scanHex_126 A_kfl_tx_scanHex_126 m z.2) (fun z : mR => fr F_kfl_tx_scanHex_126 A_kfl_tx_scanHex_126 m z)) := by
  unfold kfl_tx_scanHex_126
  exact RP_some fr_0
def F_kfl_tx_scanHex_111 : List Nat := [205, 208]
def A_kfl_tx_scanHex_111 : List Nat := []
theorem u_kfl_tx_scanHex_111 (v1 : Int) (u1 : Int) (u2 : Int) (m : mR) : RP (kfl_tx_scanHex_111 v1 u1 u2 m) (sel (fun z : (Int × mR) => fr F_kfl_tx_scanHex_111 A_kfl_tx_scanHex_111 m z.2) (fun z : mR => fr F_kfl_tx_scanHex_111 A_kfl_tx_scanHex_111 m z)) := by
  unfold kfl_tx_scanHex_111
  exact RP_w (u_kfl_tx_scanHex_126 v1 (mO m [(205, cut ((m.1 205) + 1)), (208, or64 u1 u2)] [])) (sl_w (fun z hz => (fr_s hz (fr_m fr_0 rfl rfl) rfl rfl)) (fun z hz => (fr_s hz (fr_m fr_0 rfl rfl) rfl rfl)))
def F_kfl_tx_scanHex_81 : List Nat := [205, 208]
def A_kfl_tx_scanHex_81 : List Nat := []
theorem u_kfl_tx_scanHex_81 (v2 : Int) (v3 : Int) (u0 : Int) (m : mR) : RP (kfl_tx_scanHex_81 v2 v3 u0 m) (sel (fun z : (Int × mR) => fr F_kfl_tx_scanHex_81 A_kfl_tx_scanHex_81 m z.2) (fun z : mR => fr F_kfl_tx_scanHex_81 A_kfl_tx_scanHex_81 m z)) := by
  unfold kfl_tx_scanHex_81
  refine RP_ite (fun h1 => ?_) (fun h1 => ?_)
  · skip
    exact RP_w (u_kfl_tx_scanHex_126 u0 m) (sl_w (fun z hz => (fr_s hz fr_0 rfl rfl)) (fun z hz => (fr_s hz fr_0 rfl rfl)))
  · skip
    refine RP_ite (fun h2 => ?_) (fun h2 => ?_)
    · skip
      exact RP_w (u_kfl_tx_scanHex_111 u0 (shl64 (m.1 208) 4) (cut ((cut (v2 - 97)) + 10)) m) (sl_w (fun z hz => (fr_s hz fr_0 rfl rfl)) (fun z hz => (fr_s hz fr_0 rfl rfl)))
    · skip
      exact RP_w (u_kfl_tx_scanHex_111 u0 (shl64 (m.1 208) 4) (cut (v2 - 48)) m) (sl_w (fun z hz => (fr_s hz fr_0 rfl rfl)) (fun z hz => (fr_s hz fr_0 rfl rfl)))
def F_kfl_tx_scanHex_80 : List Nat := [205, 208]
def A_kfl_tx_scanHex_80 : List Nat := []
theorem u_kfl_tx_scanHex_80 (v2 : Int) (v3 : Int) (m : mR) : RP (kfl_tx_scanHex_80 v2 v3 m) (sel (fun z : (Int × mR) => fr F_kfl_tx_scanHex_80 A_kfl_tx_scanHex_80 m z.2) (fun z : mR => fr F_kfl_tx_scanHex_80 A_kfl_tx_scanHex_80 m z)) := by
  unfold kfl_tx_scanHex_80
  exact RP_w (u_kfl_tx_scanHex_81 v2 v3 0 m) (sl_w (fun z hz => (fr_s hz fr_0 rfl rfl)) (fun z hz => (fr_s hz fr_0 rfl rfl)))
def F_kfl_tx_scanHex_76 : List Nat := [205, 208]
def A_kfl_tx_scanHex_76 : List Nat := []
theorem u_kfl_tx_scanHex_76 (v2 : Int) (v3 : Int) (m : mR) : RP (kfl_tx_scanHex_76 v2 v3 m) (sel (fun z : (Int × mR) => fr F_kfl_tx_scanHex_76 A_kfl_tx_scanHex_76 m z.2) (fun z : mR => fr F_kfl_tx_scanHex_76 A_kfl_tx_scanHex_76 m z)) := by
  unfold kfl_tx_scanHex_76
  exact RP_w (u_kfl_tx_scanHex_81 v2 v3 1 m) (sl_w (fun z hz => (fr_s hz fr_0 rfl rfl)) (fun z hz => (fr_s hz fr_0 rfl rfl)))
def F_kfl_tx_scanHex_59 : List Nat := [205, 208]
def A_kfl_tx_scanHex_59 : List Nat := []
theorem u_kfl_tx_scanHex_59 (v2 : Int) (u0 : Int) (m : mR) : RP (kfl_tx_scanHex_59 v2 u0 m) (sel (fun z : (Int × mR) => fr F_kfl_tx_scanHex_59 A_kfl_tx_scanHex_59 m z.2) (fun z : mR => fr F_kfl_tx_scanHex_59 A_kfl_tx_scanHex_59 m z)) := by
  unfold kfl_tx_scanHex_59
  refine RP_ite (fun h1 => ?_) (fun h1 => ?_)
  · skip
    refine RP_ite (fun h2 => ?_) (fun h2 => ?_)
    · skip
      exact RP_w (u_kfl_tx_scanHex_80 v2 u0 m) (sl_w (fun z hz => (fr_s hz fr_0 rfl rfl)) (fun z hz => (fr_s hz fr_0 rfl rfl)))
    · skip
      refine RP_ite (fun h3 => ?_) (fun h3 => ?_)
      · skip
        exact RP_w (u_kfl_tx_scanHex_80 v2 u0 m) (sl_w (fun z hz => (fr_s hz fr_0 rfl rfl)) (fun z hz => (fr_s hz fr_0 rfl rfl)))
      · skip
        exact RP_w (u_kfl_tx_scanHex_76 v2 u0 m) (sl_w (fun z hz => (fr_s hz fr_0 rfl rfl)) (fun z hz => (fr_s hz fr_0 rfl rfl)))
  · skip
    exact RP_w (u_kfl_tx_scanHex_76 v2 u0 m) (sl_w (fun z hz => (fr_s hz fr_0 rfl rfl)) (fun z hz => (fr_s hz fr_0 rfl rfl)))
def F_kfl_tx_scanHex_58 : List Nat := [205, 208]
def A_kfl_tx_scanHex_58 : List Nat := []
theorem u_kfl_tx_scanHex_58 (v2 : Int) (m : mR) : RP (kfl_tx_scanHex_58 v2 m) (sel (fun z : (Int × mR) => fr F_kfl_tx_scanHex_58 A_kfl_tx_scanHex_58 m z.2) (fun z : mR => fr F_kfl_tx_scanHex_58 A_kfl_tx_scanHex_58 m z)) := by
  unfold kfl_tx_scanHex_58
  exact RP_w (u_kfl_tx_scanHex_59 v2 0 m) (sl_w (fun z hz => (fr_s hz fr_0 rfl rfl)) (fun z hz => (fr_s hz fr_0 rfl rfl)))
def F_kfb_tx_scanHex_17 : List Nat := [205, 208]
def A_kfb_tx_scanHex_17 : List Nat := []
theorem u_kfb_tx_scanHex_17 (s : Int × mR) : RP (kfb_tx_scanHex_17 s) (sel (fun z : (Int × mR) => fr F_kfb_tx_scanHex_17 A_kfb_tx_scanHex_17 s.2 z.2) (fun z : mR => fr F_kfb_tx_scanHex_17 A_kfb_tx_scanHex_17 s.2 z)) := by
  unfold kfb_tx_scanHex_17
  refine RP_ite (fun h1 => ?_) (fun h1 => ?_)
  · skip
    exact RP_some fr_0
  · skip
    refine RP_ite (fun h2 => ?_) (fun h2 => ?_)
    · skip
      exact RP_some fr_0
    · skip
      refine RP_ite (fun h3 => ?_) (fun h3 => ?_)
      · skip
        exact RP_w (u_kfl_tx_scanHex_58 ((s.2.2 1) (s.2.1 205)) s.2) (sl_w (fun z hz => (fr_s hz fr_0 rfl rfl)) (fun z hz => (fr_s hz fr_0 rfl rfl)))
      · skip
        refine RP_ite (fun h4 => ?_) (fun h4 => ?_)
        · skip
          exact RP_w (u_kfl_tx_scanHex_58 ((s.2.2 1) (s.2.1 205)) s.2) (sl_w (fun z hz => (fr_s hz fr_0 rfl rfl)) (fun z hz => (fr_s hz fr_0 rfl rfl)))
        · skip
          exact RP_w (u_kfl_tx_scanHex_59 ((s.2.2 1) (s.2.1 205)) 1 s.2) (sl_w (fun z hz => (fr_s hz fr_0 rfl rfl)) (fun z hz => (fr_s hz fr_0 rfl rfl)))
theorem uw_kfb_tx_scanHex_17 (s : Int × mR) : RP (whl kfb_tx_scanHex_17 s) (fun z : mR => fr F_kfb_tx_scanHex_17 A_kfb_tx_scanHex_17 s.2 z) := RP_whl (I := fun q : Int × mR => fr F_kfb_tx_scanHex_17 A_kfb_tx_scanHex_17 s.2 q.2) (fun q hq => RP_w (u_kfb_tx_scanHex_17 q) (sl_w (fun z hz => (fr_s hz hq rfl rfl)) (fun z hz => (fr_s hz hq rfl rfl)))) fr_0
theorem u_kf_tx_scanHex (m : mR) : RP (kf_tx_scanHex m) (fun z : Int × mR => fr kF_tx_scanHex kA_tx_scanHex m z.2) := by
  unfold kf_tx_scanHex
  refine RP_bnd (uw_kfb_tx_scanHex_17 (1, (mO m [(205, cut ((m.1 205) + 2)), (208, 0)] []))) (fun e14 h1 => ?_)
  have h2 : fr kF_tx_scanHex kA_tx_scanHex m e14 := (fr_s h1 (fr_m fr_0 rfl rfl) rfl rfl)
  exact RP_w (u_kfl_tx_scanHex_129 e14) (fun z hz => (fr_s hz h2 rfl rfl))
def kF_tx_scanName : List Nat := [205, 209, 210]
def kA_tx_scanName : List Nat := []
def F_kfl_tx_scanName_161 : List Nat := []
def A_kfl_tx_scanName_161 : List Nat := []
theorem u_kfl_tx_scanName_161 (v1 : Int) (m : mR) : RP (kfl_tx_scanName_161 v1 m) (sel (fun z : (Int × mR) => fr F_kfl_tx_scanName_161 A_kfl_tx_scanName_161 m z.2) (fun z : mR => fr F_kfl_tx_scanName_161 A_kfl_tx_scanName_161 m z)) := by
  unfold kfl_tx_scanName_161
  exact RP_some fr_0
def F_kfl_tx_scanName_147 : List Nat := [205, 210]
def A_kfl_tx_scanName_147 : List Nat := []
theorem u_kfl_tx_scanName_147 (v1 : Int) (u1 : Int) (u2 : Int) (m : mR) : RP (kfl_tx_scanName_147 v1 u1 u2 m) (sel (fun z : (Int × mR) => fr F_kfl_tx_scanName_147 A_kfl_tx_scanName_147 m z.2) (fun z : mR => fr F_kfl_tx_scanName_147 A_kfl_tx_scanName_147 m z)) := by
  unfold kfl_tx_scanName_147
  exact RP_w (u_kfl_tx_scanName_161 v1 (mO m [(205, cut ((m.1 205) + 1)), (210, or64 u1 u2)] [])) (sl_w (fun z hz => (fr_s hz (fr_m fr_0 rfl rfl) rfl rfl)) (fun z hz => (fr_s hz (fr_m fr_0 rfl rfl) rfl rfl)))
def F_kfl_tx_scanName_146 : List Nat := [205, 210]
def A_kfl_tx_scanName_146 : List Nat := []
theorem u_kfl_tx_scanName_146 (v1 : Int) (u1 : Int) (m : mR) : RP (kfl_tx_scanName_146 v1 u1 m) (sel (fun z : (Int × mR) => fr F_kfl_tx_scanName_146 A_kfl_tx_scanName_146 m z.2) (fun z : mR => fr F_kfl_tx_scanName_146 A_kfl_tx_scanName_146 m z)) := by
  unfold kfl_tx_scanName_146
  exact RP_w (u_kfl_tx_scanName_147 v1 u1 0 m) (sl_w (fun z hz => (fr_s hz fr_0 rfl rfl)) (fun z hz => (fr_s hz fr_0 rfl rfl)))
def F_kfl_tx_scanName_112 : List Nat := [205, 209, 210]
def A_kfl_tx_scanName_112 : List Nat := []
theorem u_kfl_tx_scanName_112 (v1 : Int) (v2 : Int) (v3 : Int) (u1 : Int) (u2 : Int) (m : mR) : RP (kfl_tx_scanName_112 v1 v2 v3 u1 u2 m) (sel (fun z : (Int × mR) => fr F_kfl_tx_scanName_112 A_kfl_tx_scanName_112 m z.2) (fun z : mR => fr F_kfl_tx_scanName_112 A_kfl_tx_scanName_112 m z)) := by
  unfold kfl_tx_scanName_112
  refine RP_ite (fun h1 => ?_) (fun h1 => ?_)
  · skip
    exact RP_w (u_kfl_tx_scanName_146 v1 (m.1 210) (mO m [(209, or64 u1 u2)] [])) (sl_w (fun z hz => (fr_s hz (fr_m fr_0 rfl rfl) rfl rfl)) (fun z hz => (fr_s hz (fr_m fr_0 rfl rfl) rfl rfl)))
  · skip
    refine RP_ite (fun h2 => ?_) (fun h2 => ?_)
    · skip
      exact RP_w (u_kfl_tx_scanName_146 v1 (m.1 210) (mO m [(209, or64 u1 u2)] [])) (sl_w (fun z hz => (fr_s hz (fr_m fr_0 rfl rfl) rfl rfl)) (fun z hz => (fr_s hz (fr_m fr_0 rfl rfl) rfl rfl)))
    · skip
      exact RP_w (u_kfl_tx_scanName_147 v1 (m.1 210) (shl64 v2 (cut (120 - (cut (8 * v3))))) (mO m [(209, or64 u1 u2)] [])) (sl_w (fun z hz => (fr_s hz (fr_m fr_0 rfl rfl) rfl rfl)) (fun z hz => (fr_s hz (fr_m fr_0 rfl rfl) rfl rfl)))
def F_kfl_tx_scanName_72 : List Nat := [205, 209, 210]
def A_kfl_tx_scanName_72 : List Nat := []
theorem u_kfl_tx_scanName_72 (v2 : Int) (u0 : Int) (m : mR) : RP (kfl_tx_scanName_72 v2 u0 m) (sel (fun z : (Int × mR) => fr F_kfl_tx_scanName_72 A_kfl_tx_scanName_72 m z.2) (fun z : mR => fr F_kfl_tx_scanName_72 A_kfl_tx_scanName_72 m z)) := by
  unfold kfl_tx_scanName_72
  refine RP_ite (fun h1 => ?_) (fun h1 => ?_)
  · skip
    exact RP_w (u_kfl_tx_scanName_161 u0 m) (sl_w (fun z hz => (fr_s hz fr_0 rfl rfl)) (fun z hz => (fr_s hz fr_0 rfl rfl)))
  · skip
    refine RP_ite (fun h2 => ?_) (fun h2 => ?_)
    · skip
      exact RP_w (u_kfl_tx_scanName_112 u0 v2 (cut ((m.1 205) - (m.1 207))) (m.1 209) 0 m) (sl_w (fun z hz => (fr_s hz fr_0 rfl rfl)) (fun z hz => (fr_s hz fr_0 rfl rfl)))
    · skip
      exact RP_w (u_kfl_tx_scanName_112 u0 v2 (cut ((m.1 205) - (m.1 207))) (m.1 209) (shl64 v2 (cut (56 - (cut (8 * (cut ((m.1 205) - (m.1 207)))))))) m) (sl_w (fun z hz => (fr_s hz fr_0 rfl rfl)) (fun z hz => (fr_s hz fr_0 rfl rfl)))
def F_kfl_tx_scanName_67 : List Nat := [205, 209, 210]
def A_kfl_tx_scanName_67 : List Nat := []
theorem u_kfl_tx_scanName_67 (v2 : Int) (m : mR) : RP (kfl_tx_scanName_67 v2 m) (sel (fun z : (Int × mR) => fr F_kfl_tx_scanName_67 A_kfl_tx_scanName_67 m z.2) (fun z : mR => fr F_kfl_tx_scanName_67 A_kfl_tx_scanName_67 m z)) := by
  unfold kfl_tx_scanName_67
  exact RP_w (u_kfl_tx_scanName_72 v2 1 m) (sl_w (fun z hz => (fr_s hz fr_0 rfl rfl)) (fun z hz => (fr_s hz fr_0 rfl rfl)))
def F_kfl_tx_scanName_61 : List Nat := [205, 209, 210]
def A_kfl_tx_scanName_61 : List Nat := []
theorem u_kfl_tx_scanName_61 (v2 : Int) (m : mR) : RP (kfl_tx_scanName_61 v2 m) (sel (fun z : (Int × mR) => fr F_kfl_tx_scanName_61 A_kfl_tx_scanName_61 m z.2) (fun z : mR => fr F_kfl_tx_scanName_61 A_kfl_tx_scanName_61 m z)) := by
  unfold kfl_tx_scanName_61
  refine RP_ite (fun h1 => ?_) (fun h1 => ?_)
  · skip
    exact RP_w (u_kfl_tx_scanName_67 v2 m) (sl_w (fun z hz => (fr_s hz fr_0 rfl rfl)) (fun z hz => (fr_s hz fr_0 rfl rfl)))
  · skip
    exact RP_w (u_kfl_tx_scanName_72 v2 0 m) (sl_w (fun z hz => (fr_s hz fr_0 rfl rfl)) (fun z hz => (fr_s hz fr_0 rfl rfl)))
def F_kfl_tx_scanName_49 : List Nat := [205, 209, 210]
def A_kfl_tx_scanName_49 : List Nat := []
theorem u_kfl_tx_scanName_49 (v2 : Int) (m : mR) : RP (kfl_tx_scanName_49 v2 m) (sel (fun z : (Int × mR) => fr F_kfl_tx_scanName_49 A_kfl_tx_scanName_49 m z.2) (fun z : mR => fr F_kfl_tx_scanName_49 A_kfl_tx_scanName_49 m z)) := by
  unfold kfl_tx_scanName_49
  refine RP_ite (fun h1 => ?_) (fun h1 => ?_)
  · skip
    exact RP_w (u_kfl_tx_scanName_61 v2 m) (sl_w (fun z hz => (fr_s hz fr_0 rfl rfl)) (fun z hz => (fr_s hz fr_0 rfl rfl)))
  · skip
    refine RP_ite (fun h2 => ?_) (fun h2 => ?_)
    · skip
      exact RP_w (u_kfl_tx_scanName_67 v2 m) (sl_w (fun z hz => (fr_s hz fr_0 rfl rfl)) (fun z hz => (fr_s hz fr_0 rfl rfl)))
    · skip
      exact RP_w (u_kfl_tx_scanName_61 v2 m) (sl_w (fun z hz => (fr_s hz fr_0 rfl rfl)) (fun z hz => (fr_s hz fr_0 rfl rfl)))
def F_kfb_tx_scanName_12 : List Nat := [205, 209, 210]
def A_kfb_tx_scanName_12 : List Nat := []
theorem u_kfb_tx_scanName_12 (s : Int × mR) : RP (kfb_tx_scanName_12 s) (sel (fun z : (Int × mR) => fr F_kfb_tx_scanName_12 A_kfb_tx_scanName_12 s.2 z.2) (fun z : mR => fr F_kfb_tx_scanName_12 A_kfb_tx_scanName_12 s.2 z)) := by
  unfold kfb_tx_scanName_12
  refine RP_ite (fun h1 => ?_) (fun h1 => ?_)
  · skip
    exact RP_some fr_0
  · skip
    refine RP_ite (fun h2 => ?_) (fun h2 => ?_)
    · skip
      exact RP_some fr_0
    · skip
      refine RP_ite (fun h3 => ?_) (fun h3 => ?_)
      · skip
        exact RP_w (u_kfl_tx_scanName_49 ((s.2.2 1) (s.2.1 205)) s.2) (sl_w (fun z hz => (fr_s hz fr_0 rfl rfl)) (fun z hz => (fr_s hz fr_0 rfl rfl)))
      · skip
        refine RP_ite (fun h4 => ?_) (fun h4 => ?_)
        · skip
          exact RP_w (u_kfl_tx_scanName_67 ((s.2.2 1) (s.2.1 205)) s.2) (sl_w (fun z hz => (fr_s hz fr_0 rfl rfl)) (fun z hz => (fr_s hz fr_0 rfl rfl)))
        · skip
          exact RP_w (u_kfl_tx_scanName_49 ((s.2.2 1) (s.2.1 205)) s.2) (sl_w (fun z hz => (fr_s hz fr_0 rfl rfl)) (fun z hz => (fr_s hz fr_0 rfl rfl)))
theorem uw_kfb_tx_scanName_12 (s : Int × mR) : RP (whl kfb_tx_scanName_12 s) (fun z : mR => fr F_kfb_tx_scanName_12 A_kfb_tx_scanName_12 s.2 z) := RP_whl (I := fun q : Int × mR => fr F_kfb_tx_scanName_12 A_kfb_tx_scanName_12 s.2 q.2) (fun q hq => RP_w (u_kfb_tx_scanName_12 q) (sl_w (fun z hz => (fr_s hz hq rfl rfl)) (fun z hz => (fr_s hz hq rfl rfl)))) fr_0
theorem u_kf_tx_scanName (m : mR) : RP (kf_tx_scanName m) (fun z : Int × mR => fr kF_tx_scanName kA_tx_scanName m z.2) := by
  unfold kf_tx_scanName
  refine RP_bnd (uw_kfb_tx_scanName_12 (1, (mO m [(209, 0), (210, 0)] []))) (fun e14 h1 => ?_)
  have h2 : fr kF_tx_scanName kA_tx_scanName m e14 := (fr_s h1 (fr_m fr_0 rfl rfl) rfl rfl)
  exact RP_some h2
def kF_tx_advance : List Nat := [205, 206, 207, 208, 209, 210, 211, 212]
def kA_tx_advance : List Nat := []
def F_kfl_tx_advance_255 : List Nat := [211, 212]
def A_kfl_tx_advance_255 : List Nat := []
theorem u_kfl_tx_advance_255 (m : mR) : RP (kfl_tx_advance_255 m) (fun z : Int × Int × mR => fr F_kfl_tx_advance_255 A_kfl_tx_advance_255 m z.2.2) := by
  unfold kfl_tx_advance_255
  refine RP_ite (fun h1 => ?_) (fun h1 => ?_)
  · skip
    refine RP_bnd (u_kf_tx_fail 2 (m.1 207) m) (fun y3 h2 => ?_)
    have h3 : fr F_kfl_tx_advance_255 A_kfl_tx_advance_255 m y3.2.2 := (fr_s h2 fr_0 rfl rfl)
    refine RP_ite (fun h4 => ?_) (fun h4 => ?_)
    · skip
      exact RP_some h3
    · skip
      exact RP_some h3
  · skip
    exact RP_some fr_0
def F_kfl_tx_advance_246 : List Nat := [205, 206, 211, 212]
def A_kfl_tx_advance_246 : List Nat := []
theorem u_kfl_tx_advance_246 (v1 : Int) (m : mR) : RP (kfl_tx_advance_246 v1 m) (fun z : Int × Int × mR => fr F_kfl_tx_advance_246 A_kfl_tx_advance_246 m z.2.2) := by
  unfold kfl_tx_advance_246
  refine RP_bnd (u_kf_tx_scanSign v1 m) (fun y6 h1 => ?_)
  have h2 : fr F_kfl_tx_advance_246 A_kfl_tx_advance_246 m y6.2 := (fr_s h1 fr_0 rfl rfl)
  exact RP_w (u_kfl_tx_advance_255 (mO y6.2 [(206, y6.1)] [])) (fun z hz => (fr_s hz (fr_m h2 rfl rfl) rfl rfl))
def F_kfl_tx_advance_240 : List Nat := [206, 211, 212]
def A_kfl_tx_advance_240 : List Nat := []
theorem u_kfl_tx_advance_240 (u1 : Int) (m : mR) : RP (kfl_tx_advance_240 u1 m) (fun z : Int × Int × mR => fr F_kfl_tx_advance_240 A_kfl_tx_advance_240 m z.2.2) := by
  unfold kfl_tx_advance_240
  exact RP_w (u_kfl_tx_advance_255 (mO m [(206, u1)] [])) (fun z hz => (fr_s hz (fr_m fr_0 rfl rfl) rfl rfl))
def F_kfl_tx_advance_223 : List Nat := [205, 206, 208, 211, 212]
def A_kfl_tx_advance_223 : List Nat := []
theorem u_kfl_tx_advance_223 (u0 : Int) (m : mR) : RP (kfl_tx_advance_223 u0 m) (fun z : Int × Int × mR => fr F_kfl_tx_advance_223 A_kfl_tx_advance_223 m z.2.2) := by
  unfold kfl_tx_advance_223
  refine RP_ite (fun h1 => ?_) (fun h1 => ?_)
  · skip
    refine RP_bnd (u_kf_tx_scanDecimal m) (fun y10 h2 => ?_)
    have h3 : fr F_kfl_tx_advance_223 A_kfl_tx_advance_223 m y10.2 := (fr_s h2 fr_0 rfl rfl)
    exact RP_w (u_kfl_tx_advance_240 y10.1 y10.2) (fun z hz => (fr_s hz h3 rfl rfl))
  · skip
    refine RP_bnd (u_kf_tx_scanHex m) (fun y13 h4 => ?_)
    have h5 : fr F_kfl_tx_advance_223 A_kfl_tx_advance_223 m y13.2 := (fr_s h4 fr_0 rfl rfl)
    exact RP_w (u_kfl_tx_advance_240 y13.1 y13.2) (fun z hz => (fr_s hz h5 rfl rfl))
def F_kfl_tx_advance_222 : List Nat := [205, 206, 208, 211, 212]
def A_kfl_tx_advance_222 : List Nat := []
theorem u_kfl_tx_advance_222 (m : mR) : RP (kfl_tx_advance_222 m) (fun z : Int × Int × mR => fr F_kfl_tx_advance_222 A_kfl_tx_advance_222 m z.2.2) := by
  unfold kfl_tx_advance_222
  exact RP_w (u_kfl_tx_advance_223 0 m) (fun z hz => (fr_s hz fr_0 rfl rfl))
def F_kfl_tx_advance_171 : List Nat := [205, 206, 208, 211, 212]
def A_kfl_tx_advance_171 : List Nat := []
theorem u_kfl_tx_advance_171 (v1 : Int) (m : mR) : RP (kfl_tx_advance_171 v1 m) (fun z : Int × Int × mR => fr F_kfl_tx_advance_171 A_kfl_tx_advance_171 m z.2.2) := by
  unfold kfl_tx_advance_171
  refine RP_ite (fun h1 => ?_) (fun h1 => ?_)
  · skip
    exact RP_w (u_kfl_tx_advance_246 v1 m) (fun z hz => (fr_s hz fr_0 rfl rfl))
  · skip
    refine RP_ite (fun h2 => ?_) (fun h2 => ?_)
    · skip
      exact RP_w (u_kfl_tx_advance_246 v1 m) (fun z hz => (fr_s hz fr_0 rfl rfl))
    · skip
      refine RP_ite (fun h3 => ?_) (fun h3 => ?_)
      · skip
        refine RP_ite (fun h4 => ?_) (fun h4 => ?_)
        · skip
          exact RP_w (u_kfl_tx_advance_222 m) (fun z hz => (fr_s hz fr_0 rfl rfl))
        · skip
          refine RP_ite (fun h5 => ?_) (fun h5 => ?_)
          · skip
            exact RP_w (u_kfl_tx_advance_223 1 m) (fun z hz => (fr_s hz fr_0 rfl rfl))
          · skip
            exact RP_w (u_kfl_tx_advance_222 m) (fun z hz => (fr_s hz fr_0 rfl rfl))
      · skip
        exact RP_w (u_kfl_tx_advance_222 m) (fun z hz => (fr_s hz fr_0 rfl rfl))
def F_kfl_tx_advance_165 : List Nat := [206, 211, 212]
def A_kfl_tx_advance_165 : List Nat := []
theorem u_kfl_tx_advance_165 (u1 : Int) (m : mR) : RP (kfl_tx_advance_165 u1 m) (fun z : Int × Int × mR => fr F_kfl_tx_advance_165 A_kfl_tx_advance_165 m z.2.2) := by
  unfold kfl_tx_advance_165
  exact RP_w (u_kfl_tx_advance_255 (mO m [(206, u1)] [])) (fun z hz => (fr_s hz (fr_m fr_0 rfl rfl) rfl rfl))
def F_kfl_tx_advance_104 : List Nat := [205, 206, 208, 209, 210, 211, 212]
def A_kfl_tx_advance_104 : List Nat := []
theorem u_kfl_tx_advance_104 (u0 : Int) (m : mR) : RP (kfl_tx_advance_104 u0 m) (fun z : Int × Int × mR => fr F_kfl_tx_advance_104 A_kfl_tx_advance_104 m z.2.2) := by
  unfold kfl_tx_advance_104
  refine RP_ite (fun h1 => ?_) (fun h1 => ?_)
  · skip
    refine RP_ite (fun h2 => ?_) (fun h2 => ?_)
    · skip
      exact RP_w (u_kfl_tx_advance_171 u0 m) (fun z hz => (fr_s hz fr_0 rfl rfl))
    · skip
      refine RP_ite (fun h3 => ?_) (fun h3 => ?_)
      · skip
        exact RP_w (u_kfl_tx_advance_171 u0 m) (fun z hz => (fr_s hz fr_0 rfl rfl))
      · skip
        refine RP_bnd (u_kf_tx_scanName m) (fun y24 h4 => ?_)
        have h5 : fr F_kfl_tx_advance_104 A_kfl_tx_advance_104 m y24.2 := (fr_s h4 fr_0 rfl rfl)
        refine RP_ite (fun h6 => ?_) (fun h6 => ?_)
        · skip
          refine RP_bndT (fun y28 => ?_)
          exact RP_w (u_kfl_tx_advance_165 y28 y24.2) (fun z hz => (fr_s hz h5 rfl rfl))
        · skip
          exact RP_w (u_kfl_tx_advance_165 (-1) y24.2) (fun z hz => (fr_s hz h5 rfl rfl))
  · skip
    exact RP_w (u_kfl_tx_advance_255 (mO m [(206, 258)] [])) (fun z hz => (fr_s hz (fr_m fr_0 rfl rfl) rfl rfl))
def F_kfl_tx_advance_68 : List Nat := [205, 206, 207, 208, 209, 210, 211, 212]
def A_kfl_tx_advance_68 : List Nat := []
theorem u_kfl_tx_advance_68 (m : mR) : RP (kfl_tx_advance_68 m) (fun z : Int × Int × mR => fr F_kfl_tx_advance_68 A_kfl_tx_advance_68 m z.2.2) := by
  unfold kfl_tx_advance_68
  refine RP_ite (fun h1 => ?_) (fun h1 => ?_)
  · skip
    exact RP_w (u_kfl_tx_advance_104 0 (mO m [(207, m.1 205)] [])) (fun z hz => (fr_s hz (fr_m fr_0 rfl rfl) rfl rfl))
  · skip
    exact RP_w (u_kfl_tx_advance_104 (and32 ((m.2 1) (m.1 205)) 255) (mO m [(207, m.1 205)] [])) (fun z hz => (fr_s hz (fr_m fr_0 rfl rfl) rfl rfl))
def F_kfl_tx_advance_55 : List Nat := [205]
def A_kfl_tx_advance_55 : List Nat := []
theorem u_kfl_tx_advance_55 (m : mR) : RP (kfl_tx_advance_55 m) (sel (fun z : (mR) => fr F_kfl_tx_advance_55 A_kfl_tx_advance_55 m z) (fun z : mR => fr F_kfl_tx_advance_55 A_kfl_tx_advance_55 m z)) := by
  unfold kfl_tx_advance_55
  exact RP_some (fr_m fr_0 rfl rfl)
def F_kfb_tx_advance_16 : List Nat := [205]
def A_kfb_tx_advance_16 : List Nat := []
theorem u_kfb_tx_advance_16 (s : mR) : RP (kfb_tx_advance_16 s) (sel (fun z : (mR) => fr F_kfb_tx_advance_16 A_kfb_tx_advance_16 s z) (fun z : mR => fr F_kfb_tx_advance_16 A_kfb_tx_advance_16 s z)) := by
  unfold kfb_tx_advance_16
  refine RP_ite (fun h1 => ?_) (fun h1 => ?_)
  · skip
    exact RP_some fr_0
  · skip
    refine RP_ite (fun h2 => ?_) (fun h2 => ?_)
    · skip
      exact RP_w (u_kfl_tx_advance_55 s) (sl_w (fun z hz => (fr_s hz fr_0 rfl rfl)) (fun z hz => (fr_s hz fr_0 rfl rfl)))
    · skip
      refine RP_ite (fun h3 => ?_) (fun h3 => ?_)
      · skip
        exact RP_w (u_kfl_tx_advance_55 s) (sl_w (fun z hz => (fr_s hz fr_0 rfl rfl)) (fun z hz => (fr_s hz fr_0 rfl rfl)))
      · skip
        exact RP_some fr_0
theorem uw_kfb_tx_advance_16 (s : mR) : RP (whl kfb_tx_advance_16 s) (fun z : mR => fr F_kfb_tx_advance_16 A_kfb_tx_advance_16 s z) := RP_whl (I := fun q : mR => fr F_kfb_tx_advance_16 A_kfb_tx_advance_16 s q) (fun q hq => RP_w (u_kfb_tx_advance_16 q) (sl_w (fun z hz => (fr_s hz hq rfl rfl)) (fun z hz => (fr_s hz hq rfl rfl)))) fr_0
theorem u_kf_tx_advance (m : mR) : RP (kf_tx_advance m) (fun z : Int × Int × mR => fr kF_tx_advance kA_tx_advance m z.2.2) := by
  unfold kf_tx_advance
  refine RP_ite (fun h1 => ?_) (fun h1 => ?_)
  · skip
    refine RP_bnd (uw_kfb_tx_advance_16 m) (fun e37 h2 => ?_)
    have h3 : fr kF_tx_advance kA_tx_advance m e37 := (fr_s h2 fr_0 rfl rfl)
    exact RP_w (u_kfl_tx_advance_68 e37) (fun z hz => (fr_s hz h3 rfl rfl))
  · skip
    refine RP_bnd (u_kf_tx_fail 4 (m.1 207) m) (fun y40 h4 => ?_)
    have h5 : fr kF_tx_advance kA_tx_advance m y40.2.2 := (fr_s h4 fr_0 rfl rfl)
    refine RP_ite (fun h6 => ?_) (fun h6 => ?_)
    · skip
      refine RP_bnd (uw_kfb_tx_advance_16 y40.2.2) (fun e43 h7 => ?_)
      have h8 : fr kF_tx_advance kA_tx_advance m e43 := (fr_s h7 h5 rfl rfl)
      exact RP_w (u_kfl_tx_advance_68 e43) (fun z hz => (fr_s hz h8 rfl rfl))
    · skip
      exact RP_some h5
def kF_tx_open : List Nat := [203, 204, 205, 206, 207, 208, 209, 210, 211, 212, 213]
def kA_tx_open : List Nat := [6, 7, 8, 9]
theorem u_kf_tx_open (v1 : Int) (m : mR) : RP (kf_tx_open v1 m) (fun z : Int × Int × mR => fr kF_tx_open kA_tx_open m z.2.2) := by
  unfold kf_tx_open
  refine RP_bnd (u_kf_tx_makeGiven_b20001 302 0 (mO m [(203, 0), (204, v1), (205, 0), (211, 0), (212, (-1)), (213, 0)] [])) (fun y1 h1 => ?_)
  have h2 : fr kF_tx_open kA_tx_open m y1.2 := (fr_s h1 (fr_m fr_0 rfl rfl) rfl rfl)
  refine RP_bnd (u_kf_tx_makeGiven_b20002 302 1 y1.2) (fun y4 h3 => ?_)
  have h4 : fr kF_tx_open kA_tx_open m y4.2 := (fr_s h3 h2 rfl rfl)
  refine RP_bnd (u_kf_tx_makeGiven_b20003 302 2 y4.2) (fun y7 h5 => ?_)
  have h6 : fr kF_tx_open kA_tx_open m y7.2 := (fr_s h5 h4 rfl rfl)
  refine RP_bnd (u_kf_tx_makeGiven_b20004 304 16 y7.2) (fun y10 h7 => ?_)
  have h8 : fr kF_tx_open kA_tx_open m y10.2 := (fr_s h7 h6 rfl rfl)
  refine RP_bnd (u_kf_tx_makeGiven_b20005 304 17 y10.2) (fun y13 h9 => ?_)
  have h10 : fr kF_tx_open kA_tx_open m y13.2 := (fr_s h9 h8 rfl rfl)
  refine RP_bnd (u_kf_tx_advance y13.2) (fun y16 h11 => ?_)
  have h12 : fr kF_tx_open kA_tx_open m y16.2.2 := (fr_s h11 h10 rfl rfl)
  refine RP_ite (fun h13 => ?_) (fun h13 => ?_)
  · skip
    exact RP_some h12
  · skip
    exact RP_some h12
def kF_tx_refuse : List Nat := [211, 212]
def kA_tx_refuse : List Nat := []
def F_kfl_tx_refuse_13 : List Nat := [211, 212]
def A_kfl_tx_refuse_13 : List Nat := []
theorem u_kfl_tx_refuse_13 (u1 : Int) (m : mR) : RP (kfl_tx_refuse_13 u1 m) (fun z : Int × Int × mR => fr F_kfl_tx_refuse_13 A_kfl_tx_refuse_13 m z.2.2) := by
  unfold kfl_tx_refuse_13
  exact RP_some (fr_m fr_0 rfl rfl)
theorem u_kf_tx_refuse (m : mR) : RP (kf_tx_refuse m) (fun z : Int × Int × mR => fr kF_tx_refuse kA_tx_refuse m z.2.2) := by
  unfold kf_tx_refuse
  refine RP_ite (fun h1 => ?_) (fun h1 => ?_)
  · skip
    exact RP_w (u_kfl_tx_refuse_13 1 m) (fun z hz => (fr_s hz fr_0 rfl rfl))
  · skip
    exact RP_w (u_kfl_tx_refuse_13 4 m) (fun z hz => (fr_s hz fr_0 rfl rfl))
def kF_tx_expect : List Nat := [205, 206, 207, 208, 209, 210, 211, 212]
def kA_tx_expect : List Nat := []
def F_kfl_tx_expect_12 : List Nat := [205, 206, 207, 208, 209, 210, 211, 212]
def A_kfl_tx_expect_12 : List Nat := []
theorem u_kfl_tx_expect_12 (m : mR) : RP (kfl_tx_expect_12 m) (fun z : Int × Int × mR => fr F_kfl_tx_expect_12 A_kfl_tx_expect_12 m z.2.2) := by
  unfold kfl_tx_expect_12
  refine RP_bnd (u_kf_tx_advance m) (fun y1 h1 => ?_)
  have h2 : fr F_kfl_tx_expect_12 A_kfl_tx_expect_12 m y1.2.2 := (fr_s h1 fr_0 rfl rfl)
  refine RP_ite (fun h3 => ?_) (fun h3 => ?_)
  · skip
    exact RP_some h2
  · skip
    exact RP_some h2
theorem u_kf_tx_expect (v1 : Int) (m : mR) : RP (kf_tx_expect v1 m) (fun z : Int × Int × mR => fr kF_tx_expect kA_tx_expect m z.2.2) := by
  unfold kf_tx_expect
  refine RP_ite (fun h1 => ?_) (fun h1 => ?_)
  · skip
    exact RP_w (u_kfl_tx_expect_12 m) (fun z hz => (fr_s hz fr_0 rfl rfl))
  · skip
    refine RP_bnd (u_kf_tx_refuse m) (fun y5 h2 => ?_)
    have h3 : fr kF_tx_expect kA_tx_expect m y5.2.2 := (fr_s h2 fr_0 rfl rfl)
    refine RP_ite (fun h4 => ?_) (fun h4 => ?_)
    · skip
      exact RP_w (u_kfl_tx_expect_12 y5.2.2) (fun z hz => (fr_s hz h3 rfl rfl))
    · skip
      exact RP_some h3
def kF_rd_openControl : List Nat := [205, 206, 207, 208, 209, 210, 211, 212, 227]
def kA_rd_openControl : List Nat := [66, 67]
theorem u_kf_rd_openControl (m : mR) : RP (kf_rd_openControl m) (fun z : Int × Int × mR => fr kF_rd_openControl kA_rd_openControl m z.2.2) := by
  unfold kf_rd_openControl
  refine RP_bnd (u_kf_tx_expect 319 m) (fun y1 h1 => ?_)
  have h2 : fr kF_rd_openControl kA_rd_openControl m y1.2.2 := (fr_s h1 fr_0 rfl rfl)
  refine RP_ite (fun h3 => ?_) (fun h3 => ?_)
  · skip
    refine RP_bnd (u_kf_tx_expect 123 y1.2.2) (fun y4 h4 => ?_)
    have h5 : fr kF_rd_openControl kA_rd_openControl m y4.2.2 := (fr_s h4 h2 rfl rfl)
    refine RP_ite (fun h6 => ?_) (fun h6 => ?_)
    · skip
      exact RP_some (fr_m h5 rfl rfl)
    · skip
      exact RP_some h5
  · skip
    exact RP_some h2
def kF_tx_known : List Nat := [205, 206, 207, 208, 209, 210, 211, 212]
def kA_tx_known : List Nat := []
def F_kfl_tx_known_35 : List Nat := [205, 206, 207, 208, 209, 210, 211, 212]
def A_kfl_tx_known_35 : List Nat := []
theorem u_kfl_tx_known_35 (v2 : Int) (m : mR) : RP (kfl_tx_known_35 v2 m) (fun z : Int × Int × mR => fr F_kfl_tx_known_35 A_kfl_tx_known_35 m z.2.2) := by
  unfold kfl_tx_known_35
  refine RP_bnd (u_kf_tx_advance m) (fun y1 h1 => ?_)
  have h2 : fr F_kfl_tx_known_35 A_kfl_tx_known_35 m y1.2.2 := (fr_s h1 fr_0 rfl rfl)
  refine RP_ite (fun h3 => ?_) (fun h3 => ?_)
  · skip
    exact RP_some h2
  · skip
    exact RP_some h2
def F_kfl_tx_known_14 : List Nat := [205, 206, 207, 208, 209, 210, 211, 212]
def A_kfl_tx_known_14 : List Nat := []
theorem u_kfl_tx_known_14 (v1 : Int) (m : mR) : RP (kfl_tx_known_14 v1 m) (fun z : Int × Int × mR => fr F_kfl_tx_known_14 A_kfl_tx_known_14 m z.2.2) := by
  unfold kfl_tx_known_14
  refine RP_bndT (fun y4 => ?_)
  refine RP_ite (fun h1 => ?_) (fun h1 => ?_)
  · skip
    refine RP_bnd (u_kf_tx_fail 6 (m.1 207) m) (fun y8 h2 => ?_)
    have h3 : fr F_kfl_tx_known_14 A_kfl_tx_known_14 m y8.2.2 := (fr_s h2 fr_0 rfl rfl)
    refine RP_ite (fun h4 => ?_) (fun h4 => ?_)
    · skip
      exact RP_w (u_kfl_tx_known_35 y4 y8.2.2) (fun z hz => (fr_s hz h3 rfl rfl))
    · skip
      exact RP_some h3
  · skip
    exact RP_w (u_kfl_tx_known_35 y4 m) (fun z hz => (fr_s hz fr_0 rfl rfl))
theorem u_kf_tx_known (v1 : Int) (m : mR) : RP (kf_tx_known v1 m) (fun z : Int × Int × mR => fr kF_tx_known kA_tx_known m z.2.2) := by
  unfold kf_tx_known
  refine RP_ite (fun h1 => ?_) (fun h1 => ?_)
  · skip
    exact RP_w (u_kfl_tx_known_14 v1 m) (fun z hz => (fr_s hz fr_0 rfl rfl))
  · skip
    refine RP_bnd (u_kf_tx_refuse m) (fun y12 h2 => ?_)
    have h3 : fr kF_tx_known kA_tx_known m y12.2.2 := (fr_s h2 fr_0 rfl rfl)
    refine RP_ite (fun h4 => ?_) (fun h4 => ?_)
    · skip
      exact RP_w (u_kfl_tx_known_14 v1 y12.2.2) (fun z hz => (fr_s hz h3 rfl rfl))
    · skip
      exact RP_some h3
def kF_rd_goesOnList : List Nat := [205, 206, 207, 208, 209, 210, 211, 212]
def kA_rd_goesOnList : List Nat := []
theorem u_kf_rd_goesOnList (m : mR) : RP (kf_rd_goesOnList m) (fun z : Int × Int × mR => fr kF_rd_goesOnList kA_rd_goesOnList m z.2.2) := by
  unfold kf_rd_goesOnList
  refine RP_ite (fun h1 => ?_) (fun h1 => ?_)
  · skip
    refine RP_bnd (u_kf_tx_advance m) (fun y2 h2 => ?_)
    have h3 : fr kF_rd_goesOnList kA_rd_goesOnList m y2.2.2 := (fr_s h2 fr_0 rfl rfl)
    refine RP_ite (fun h4 => ?_) (fun h4 => ?_)
    · skip
      exact RP_some h3
    · skip
      exact RP_some h3
  · skip
    exact RP_some fr_0
def kF_rd_emit : List Nat := [205, 206, 207, 208, 209, 210, 211, 212, 218]
def kA_rd_emit : List Nat := [17]
def F_kfl_rd_emit_131 : List Nat := [205, 206, 207, 208, 209, 210, 211, 212]
def A_kfl_rd_emit_131 : List Nat := []
theorem u_kfl_rd_emit_131 (m : mR) : RP (kfl_rd_emit_131 m) (fun z : Int × Int × mR => fr F_kfl_rd_emit_131 A_kfl_rd_emit_131 m z.2.2) := by
  unfold kfl_rd_emit_131
  refine RP_bnd (u_kf_tx_expect 59 m) (fun y3 h1 => ?_)
  have h2 : fr F_kfl_rd_emit_131 A_kfl_rd_emit_131 m y3.2.2 := (fr_s h1 fr_0 rfl rfl)
  refine RP_ite (fun h3 => ?_) (fun h3 => ?_)
  · skip
    exact RP_some h2
  · skip
    exact RP_some h2
def F_kfl_rd_emit_90 : List Nat := [205, 206, 207, 208, 209, 210, 211, 212, 218]
def A_kfl_rd_emit_90 : List Nat := [17]
theorem u_kfl_rd_emit_90 (v2 : Int) (v4 : Int) (m : mR) : RP (kfl_rd_emit_90 v2 v4 m) (sel (fun z : (Int × Int × mR) => fr F_kfl_rd_emit_90 A_kfl_rd_emit_90 m z.2.2) (sel (fun z : (mR) => fr F_kfl_rd_emit_90 A_kfl_rd_emit_90 m z) (fun z : Int × mR => fr F_kfl_rd_emit_90 A_kfl_rd_emit_90 m z.2))) := by
  unfold kfl_rd_emit_90
  refine RP_bnd (u_kf_rd_goesOnList (mO m [(218, cut ((m.1 218) + 1))] [(17, upI (m.2 17) (m.1 218) v4)])) (fun y6 h1 => ?_)
  have h2 : fr F_kfl_rd_emit_90 A_kfl_rd_emit_90 m y6.2.2 := (fr_s h1 (fr_m fr_0 rfl rfl) rfl rfl)
  refine RP_ite (fun h3 => ?_) (fun h3 => ?_)
  · skip
    exact RP_some h2
  · skip
    exact RP_some h2
def F_kfl_rd_emit_84 : List Nat := []
def A_kfl_rd_emit_84 : List Nat := []
theorem u_kfl_rd_emit_84 (v2 : Int) (v3 : Int) (v4 : Int) (v5 : Int) (m : mR) : RP (kfl_rd_emit_84 v2 v3 v4 v5 m) (sel (fun z : (Int × mR) => fr F_kfl_rd_emit_84 A_kfl_rd_emit_84 m z.2) (sel (fun z : (mR) => fr F_kfl_rd_emit_84 A_kfl_rd_emit_84 m z) (fun z : Int × mR => fr F_kfl_rd_emit_84 A_kfl_rd_emit_84 m z.2))) := by
  unfold kfl_rd_emit_84
  exact RP_some fr_0
def F_kfb_rd_emit_47 : List Nat := [211, 212]
def A_kfb_rd_emit_47 : List Nat := []
theorem u_kfb_rd_emit_47 (v2 : Int) (v3 : Int) (v4 : Int) (s : Int × mR) : RP (kfb_rd_emit_47 v2 v3 v4 s) (sel (fun z : (Int × mR) => fr F_kfb_rd_emit_47 A_kfb_rd_emit_47 s.2 z.2) (sel (fun z : (mR) => fr F_kfb_rd_emit_47 A_kfb_rd_emit_47 s.2 z) (fun z : Int × mR => fr F_kfb_rd_emit_47 A_kfb_rd_emit_47 s.2 z.2))) := by
  unfold kfb_rd_emit_47
  refine RP_ite (fun h1 => ?_) (fun h1 => ?_)
  · skip
    exact RP_some fr_0
  · skip
    refine RP_ite (fun h2 => ?_) (fun h2 => ?_)
    · skip
      refine RP_bnd (u_kf_tx_fail 8 v3 s.2) (fun y12 h3 => ?_)
      have h4 : fr F_kfb_rd_emit_47 A_kfb_rd_emit_47 s.2 y12.2.2 := (fr_s h3 fr_0 rfl rfl)
      refine RP_ite (fun h5 => ?_) (fun h5 => ?_)
      · skip
        exact RP_w (u_kfl_rd_emit_84 v2 v3 v4 s.1 y12.2.2) (sl_w (fun z hz => (fr_s hz h4 rfl rfl)) (sl_w (fun z hz => (fr_s hz h4 rfl rfl)) (fun z hz => (fr_s hz h4 rfl rfl))))
      · skip
        exact RP_some h4
    · skip
      exact RP_w (u_kfl_rd_emit_84 v2 v3 v4 s.1 s.2) (sl_w (fun z hz => (fr_s hz fr_0 rfl rfl)) (sl_w (fun z hz => (fr_s hz fr_0 rfl rfl)) (fun z hz => (fr_s hz fr_0 rfl rfl))))
theorem uw_kfb_rd_emit_47 (v2 : Int) (v3 : Int) (v4 : Int) (s : Int × mR) : RP (whl (kfb_rd_emit_47 v2 v3 v4) s) (sel (fun z : ((mR)) => fr F_kfb_rd_emit_47 A_kfb_rd_emit_47 s.2 z) (fun z : Int × mR => fr F_kfb_rd_emit_47 A_kfb_rd_emit_47 s.2 z.2)) := RP_whl (I := fun q : Int × mR => fr F_kfb_rd_emit_47 A_kfb_rd_emit_47 s.2 q.2) (fun q hq => RP_w (u_kfb_rd_emit_47 v2 v3 v4 q) (sl_w (fun z hz => (fr_s hz hq rfl rfl)) (sl_w (fun z hz => (fr_s hz hq rfl rfl)) (fun z hz => (fr_s hz hq rfl rfl))))) fr_0
def F_kfb_rd_emit_14 : List Nat := [205, 206, 207, 208, 209, 210, 211, 212, 218]
def A_kfb_rd_emit_14 : List Nat := [17]
theorem u_kfb_rd_emit_14 (s : Int × Int × mR) : RP (kfb_rd_emit_14 s) (sel (fun z : (Int × Int × mR) => fr F_kfb_rd_emit_14 A_kfb_rd_emit_14 s.2.2 z.2.2) (sel (fun z : (mR) => fr F_kfb_rd_emit_14 A_kfb_rd_emit_14 s.2.2 z) (fun z : Int × mR => fr F_kfb_rd_emit_14 A_kfb_rd_emit_14 s.2.2 z.2))) := by
  unfold kfb_rd_emit_14
  refine RP_ite (fun h1 => ?_) (fun h1 => ?_)
  · skip
    exact RP_some fr_0
  · skip
    refine RP_ite (fun h2 => ?_) (fun h2 => ?_)
    · skip
      exact RP_some fr_0
    · skip
      refine RP_bnd (u_kf_tx_known 301 s.2.2) (fun y18 h3 => ?_)
      have h4 : fr F_kfb_rd_emit_14 A_kfb_rd_emit_14 s.2.2 y18.2.2 := (fr_s h3 fr_0 rfl rfl)
      refine RP_ite (fun h5 => ?_) (fun h5 => ?_)
      · skip
        refine RP_bnd (uw_kfb_rd_emit_47 s.2.1 (s.2.2.1 207) y18.2.1 (0, y18.2.2)) (RP_sl (fun e21 h6 => ?_) (fun e24 h8 => ?_))
        · skip
          have h7 : fr F_kfb_rd_emit_14 A_kfb_rd_emit_14 s.2.2 e21 := (fr_s h6 h4 rfl rfl)
          exact RP_w (u_kfl_rd_emit_90 s.2.1 y18.2.1 e21) (sl_w (fun z hz => (fr_s hz h7 rfl rfl)) (sl_w (fun z hz => (fr_s hz h7 rfl rfl)) (fun z hz => (fr_s hz h7 rfl rfl))))
        · skip
          have h9 : fr F_kfb_rd_emit_14 A_kfb_rd_emit_14 s.2.2 e24.2 := (fr_s h8 h4 rfl rfl)
          exact RP_some h9
      · skip
        exact RP_some h4
theorem uw_kfb_rd_emit_14 (s : Int × Int × mR) : RP (whl kfb_rd_emit_14 s) (sel (fun z : ((mR)) => fr F_kfb_rd_emit_14 A_kfb_rd_emit_14 s.2.2 z) (fun z : Int × mR => fr F_kfb_rd_emit_14 A_kfb_rd_emit_14 s.2.2 z.2)) := RP_whl (I := fun q : Int × Int × mR => fr F_kfb_rd_emit_14 A_kfb_rd_emit_14 s.2.2 q.2.2) (fun q hq => RP_w (u_kfb_rd_emit_14 q) (sl_w (fun z hz => (fr_s hz hq rfl rfl)) (sl_w (fun z hz => (fr_s hz hq rfl rfl)) (fun z hz => (fr_s hz hq rfl rfl))))) fr_0
theorem u_kf_rd_emit (m : mR) : RP (kf_rd_emit m) (fun z : Int × Int × mR => fr kF_rd_emit kA_rd_emit m z.2.2) := by
  unfold kf_rd_emit
  refine RP_bnd (u_kf_tx_expect 323 m) (fun y26 h1 => ?_)
  have h2 : fr kF_rd_emit kA_rd_emit m y26.2.2 := (fr_s h1 fr_0 rfl rfl)
  refine RP_ite (fun h3 => ?_) (fun h3 => ?_)
  · skip
    refine RP_bnd (uw_kfb_rd_emit_14 (1, 0, y26.2.2)) (RP_sl (fun e29 h4 => ?_) (fun e32 h6 => ?_))
    · skip
      have h5 : fr kF_rd_emit kA_rd_emit m e29 := (fr_s h4 h2 rfl rfl)
      exact RP_w (u_kfl_rd_emit_131 e29) (fun z hz => (fr_s hz h5 rfl rfl))
    · skip
      have h7 : fr kF_rd_emit kA_rd_emit m e32.2 := (fr_s h6 h2 rfl rfl)
      exact RP_some h7
  · skip
    exact RP_some h2
