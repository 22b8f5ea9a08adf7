def kF_op_put : List Nat := []
def kA_op_put : List Nat := [101]
def F_kfl_op_put_23 : List Nat := []
def A_kfl_op_put_23 : List Nat := [101]
theorem u_kfl_op_put_23 (v0 : Int) (v1 : Int) (v2 : Int) (m : mR) : RP (kfl_op_put_23 v0 v1 v2 m) (fun z : Int × mR => fr F_kfl_op_put_23 A_kfl_op_put_23 m z.2) := by
  unfold kfl_op_put_23
  exact RP_some (fr_m fr_0 rfl rfl)
theorem u_kf_op_put (v0 : Int) (v1 : Int) (v2 : Int) (m : mR) : RP (kf_op_put v0 v1 v2 m) (fun z : Int × mR => fr kF_op_put kA_op_put m z.2) := by
  unfold kf_op_put
  refine RP_ite (fun h1 => ?_) (fun h1 => ?_)
  · skip
    exact RP_w (u_kfl_op_put_23 v0 v1 v2 m) (fun z hz => (fr_s hz fr_0 rfl rfl))
  · skip
    refine RP_ite (fun h2 => ?_) (fun h2 => ?_)
    · skip
      exact RP_some fr_0
    · skip
      exact RP_w (u_kfl_op_put_23 v0 v1 v2 m) (fun z hz => (fr_s hz fr_0 rfl rfl))
def kF_op_takeAway : List Nat := []
def kA_op_takeAway : List Nat := [101]
def F_kfb_op_takeAway_2 : List Nat := []
def A_kfb_op_takeAway_2 : List Nat := [101]
theorem u_kfb_op_takeAway_2 (v0 : Int) (v1 : Int) (s : Int × mR) : RP (kfb_op_takeAway_2 v0 v1 s) (sel (fun z : (Int × mR) => fr F_kfb_op_takeAway_2 A_kfb_op_takeAway_2 s.2 z.2) (fun z : mR => fr F_kfb_op_takeAway_2 A_kfb_op_takeAway_2 s.2 z)) := by
  unfold kfb_op_takeAway_2
  refine RP_ite (fun h1 => ?_) (fun h1 => ?_)
  · skip
    exact RP_some fr_0
  · skip
    exact RP_some (fr_m fr_0 rfl rfl)
theorem uw_kfb_op_takeAway_2 (v0 : Int) (v1 : Int) (s : Int × mR) : RP (whl (kfb_op_takeAway_2 v0 v1) s) (fun z : mR => fr F_kfb_op_takeAway_2 A_kfb_op_takeAway_2 s.2 z) := RP_whl (I := fun q : Int × mR => fr F_kfb_op_takeAway_2 A_kfb_op_takeAway_2 s.2 q.2) (fun q hq => RP_w (u_kfb_op_takeAway_2 v0 v1 q) (sl_w (fun z hz => (fr_s hz hq rfl rfl)) (fun z hz => (fr_s hz hq rfl rfl)))) fr_0
theorem u_kf_op_takeAway (v0 : Int) (v1 : Int) (m : mR) : RP (kf_op_takeAway v0 v1 m) (fun z : Int × mR => fr kF_op_takeAway kA_op_takeAway m z.2) := by
  unfold kf_op_takeAway
  refine RP_bnd (uw_kfb_op_takeAway_2 v0 v1 (0, m)) (fun e4 h1 => ?_)
  have h2 : fr kF_op_takeAway kA_op_takeAway m e4 := (fr_s h1 fr_0 rfl rfl)
  exact RP_some h2
def kF_nd_valueOf_b101_b105 : List Nat := []
def kA_nd_valueOf_b101_b105 : List Nat := [25]
def F_kfl_nd_valueOf_b101_b105_304 : List Nat := []
def A_kfl_nd_valueOf_b101_b105_304 : List Nat := []
theorem u_kfl_nd_valueOf_b101_b105_304 (v2 : Int) (m : mR) : RP (kfl_nd_valueOf_b101_b105_304 v2 m) (fun z : Int × mR => fr F_kfl_nd_valueOf_b101_b105_304 A_kfl_nd_valueOf_b101_b105_304 m z.2) := by
  unfold kfl_nd_valueOf_b101_b105_304
  exact RP_some fr_0
def F_kfl_nd_valueOf_b101_b105_278 : List Nat := []
def A_kfl_nd_valueOf_b101_b105_278 : List Nat := [25]
theorem u_kfl_nd_valueOf_b101_b105_278 (v2 : Int) (v3 : Int) (v4 : Int) (v5 : Int) (v6 : Int) (m : mR) : RP (kfl_nd_valueOf_b101_b105_278 v2 v3 v4 v5 v6 m) (sel (fun z : (Int × mR) => fr F_kfl_nd_valueOf_b101_b105_278 A_kfl_nd_valueOf_b101_b105_278 m z.2) (fun z : mR => fr F_kfl_nd_valueOf_b101_b105_278 A_kfl_nd_valueOf_b101_b105_278 m z)) := by
  unfold kfl_nd_valueOf_b101_b105_278
  refine RP_bndT (fun y2 => ?_)
  exact RP_some (fr_m fr_0 rfl rfl)
def F_kfl_nd_valueOf_b101_b105_186 : List Nat := []
def A_kfl_nd_valueOf_b101_b105_186 : List Nat := [25]
theorem u_kfl_nd_valueOf_b101_b105_186 (v2 : Int) (v3 : Int) (v4 : Int) (v5 : Int) (u0 : Int) (m : mR) : RP (kfl_nd_valueOf_b101_b105_186 v2 v3 v4 v5 u0 m) (sel (fun z : (Int × mR) => fr F_kfl_nd_valueOf_b101_b105_186 A_kfl_nd_valueOf_b101_b105_186 m z.2) (fun z : mR => fr F_kfl_nd_valueOf_b101_b105_186 A_kfl_nd_valueOf_b101_b105_186 m z)) := by
  unfold kfl_nd_valueOf_b101_b105_186
  exact RP_w (u_kfl_nd_valueOf_b101_b105_278 v2 v3 v4 v5 u0 m) (sl_w (fun z hz => (fr_s hz fr_0 rfl rfl)) (fun z hz => (fr_s hz fr_0 rfl rfl)))
def F_kfb_nd_valueOf_b101_b105_3 : List Nat := []
def A_kfb_nd_valueOf_b101_b105_3 : List Nat := [25]
theorem u_kfb_nd_valueOf_b101_b105_3 (v2 : Int) (v3 : Int) (v4 : Int) (s : Int × mR) : RP (kfb_nd_valueOf_b101_b105_3 v2 v3 v4 s) (sel (fun z : (Int × mR) => fr F_kfb_nd_valueOf_b101_b105_3 A_kfb_nd_valueOf_b101_b105_3 s.2 z.2) (fun z : mR => fr F_kfb_nd_valueOf_b101_b105_3 A_kfb_nd_valueOf_b101_b105_3 s.2 z)) := by
  unfold kfb_nd_valueOf_b101_b105_3
  refine RP_ite (fun h1 => ?_) (fun h1 => ?_)
  · skip
    exact RP_some fr_0
  · skip
    refine RP_ite (fun h2 => ?_) (fun h2 => ?_)
    · skip
      exact RP_w (u_kfl_nd_valueOf_b101_b105_278 v2 v3 v4 s.1 ((s.2.2 24) s.1) s.2) (sl_w (fun z hz => (fr_s hz fr_0 rfl rfl)) (fun z hz => (fr_s hz fr_0 rfl rfl)))
    · skip
      refine RP_ite (fun h3 => ?_) (fun h3 => ?_)
      · skip
        exact RP_w (u_kfl_nd_valueOf_b101_b105_278 v2 v3 v4 s.1 ((s.2.2 101) (65536 * v3 + ((s.2.2 19) s.1))) s.2) (sl_w (fun z hz => (fr_s hz fr_0 rfl rfl)) (fun z hz => (fr_s hz fr_0 rfl rfl)))
      · skip
        refine RP_ite (fun h4 => ?_) (fun h4 => ?_)
        · skip
          exact RP_w (u_kfl_nd_valueOf_b101_b105_278 v2 v3 v4 s.1 ((s.2.2 105) (65536 * v4 + ((s.2.2 19) s.1))) s.2) (sl_w (fun z hz => (fr_s hz fr_0 rfl rfl)) (fun z hz => (fr_s hz fr_0 rfl rfl)))
        · skip
          refine RP_ite (fun h5 => ?_) (fun h5 => ?_)
          · skip
            exact RP_w (u_kfl_nd_valueOf_b101_b105_278 v2 v3 v4 s.1 (ushr64 ((s.2.2 25) ((s.2.2 19) s.1)) ((s.2.2 20) s.1)) s.2) (sl_w (fun z hz => (fr_s hz fr_0 rfl rfl)) (fun z hz => (fr_s hz fr_0 rfl rfl)))
          · skip
            refine RP_ite (fun h6 => ?_) (fun h6 => ?_)
            · skip
              refine RP_ite (fun h7 => ?_) (fun h7 => ?_)
              · skip
                exact RP_w (u_kfl_nd_valueOf_b101_b105_186 v2 v3 v4 s.1 ((s.2.2 25) ((s.2.2 21) s.1)) s.2) (sl_w (fun z hz => (fr_s hz fr_0 rfl rfl)) (fun z hz => (fr_s hz fr_0 rfl rfl)))
              · skip
                exact RP_w (u_kfl_nd_valueOf_b101_b105_186 v2 v3 v4 s.1 ((s.2.2 25) ((s.2.2 20) s.1)) s.2) (sl_w (fun z hz => (fr_s hz fr_0 rfl rfl)) (fun z hz => (fr_s hz fr_0 rfl rfl)))
            · skip
              refine RP_ite (fun h8 => ?_) (fun h8 => ?_)
              · skip
                exact RP_w (u_kfl_nd_valueOf_b101_b105_278 v2 v3 v4 s.1 (or64 (shl64 ((s.2.2 25) ((s.2.2 19) s.1)) ((s.2.2 22) ((s.2.2 20) s.1))) ((s.2.2 25) ((s.2.2 20) s.1))) s.2) (sl_w (fun z hz => (fr_s hz fr_0 rfl rfl)) (fun z hz => (fr_s hz fr_0 rfl rfl)))
              · skip
                refine RP_bndT (fun y14 => ?_)
                exact RP_w (u_kfl_nd_valueOf_b101_b105_278 v2 v3 v4 s.1 y14 s.2) (sl_w (fun z hz => (fr_s hz fr_0 rfl rfl)) (fun z hz => (fr_s hz fr_0 rfl rfl)))
theorem uw_kfb_nd_valueOf_b101_b105_3 (v2 : Int) (v3 : Int) (v4 : Int) (s : Int × mR) : RP (whl (kfb_nd_valueOf_b101_b105_3 v2 v3 v4) s) (fun z : mR => fr F_kfb_nd_valueOf_b101_b105_3 A_kfb_nd_valueOf_b101_b105_3 s.2 z) := RP_whl (I := fun q : Int × mR => fr F_kfb_nd_valueOf_b101_b105_3 A_kfb_nd_valueOf_b101_b105_3 s.2 q.2) (fun q hq => RP_w (u_kfb_nd_valueOf_b101_b105_3 v2 v3 v4 q) (sl_w (fun z hz => (fr_s hz hq rfl rfl)) (fun z hz => (fr_s hz hq rfl rfl)))) fr_0
theorem u_kf_nd_valueOf_b101_b105 (v1 : Int) (v2 : Int) (v3 : Int) (v4 : Int) (m : mR) : RP (kf_nd_valueOf_b101_b105 v1 v2 v3 v4 m) (fun z : Int × mR => fr kF_nd_valueOf_b101_b105 kA_nd_valueOf_b101_b105 m z.2) := by
  unfold kf_nd_valueOf_b101_b105
  refine RP_bnd (uw_kfb_nd_valueOf_b101_b105_3 v2 v3 v4 (v1, m)) (fun e17 h1 => ?_)
  have h2 : fr kF_nd_valueOf_b101_b105 kA_nd_valueOf_b101_b105 m e17 := (fr_s h1 fr_0 rfl rfl)
  exact RP_w (u_kfl_nd_valueOf_b101_b105_304 v2 e17) (fun z hz => (fr_s hz h2 rfl rfl))
def kF_op_doDeed_b71 : List Nat := []
def kA_op_doDeed_b71 : List Nat := [25, 71, 101]
def F_kfl_op_doDeed_b71_131 : List Nat := []
def A_kfl_op_doDeed_b71_131 : List Nat := [71, 101]
theorem u_kfl_op_doDeed_b71_131 (v0 : Int) (v2 : Int) (v6 : Int) (v8 : Int) (v9 : Int) (m : mR) : RP (kfl_op_doDeed_b71_131 v0 v2 v6 v8 v9 m) (fun z : Int × mR => fr F_kfl_op_doDeed_b71_131 A_kfl_op_doDeed_b71_131 m z.2) := by
  unfold kfl_op_doDeed_b71_131
  refine RP_ite (fun h1 => ?_) (fun h1 => ?_)
  · skip
    refine RP_bnd (u_kf_op_put v0 v6 v9 m) (fun y2 h2 => ?_)
    have h3 : fr F_kfl_op_doDeed_b71_131 A_kfl_op_doDeed_b71_131 m y2.2 := (fr_s h2 fr_0 rfl rfl)
    exact RP_some h3
  · skip
    refine RP_ite (fun h4 => ?_) (fun h4 => ?_)
    · skip
      refine RP_bnd (u_kf_op_takeAway v0 v6 m) (fun y6 h5 => ?_)
      have h6 : fr F_kfl_op_doDeed_b71_131 A_kfl_op_doDeed_b71_131 m y6.2 := (fr_s h5 fr_0 rfl rfl)
      exact RP_some h6
    · skip
      refine RP_ite (fun h7 => ?_) (fun h7 => ?_)
      · skip
        refine RP_bnd (u_kf_op_put v0 v6 ((m.2 71) v8) m) (fun y10 h8 => ?_)
        have h9 : fr F_kfl_op_doDeed_b71_131 A_kfl_op_doDeed_b71_131 m y10.2 := (fr_s h8 fr_0 rfl rfl)
        exact RP_some h9
      · skip
        refine RP_ite (fun h10 => ?_) (fun h10 => ?_)
        · skip
          exact RP_some (fr_m fr_0 rfl rfl)
        · skip
          exact RP_some (fr_m fr_0 rfl rfl)
def F_kfl_op_doDeed_b71_88 : List Nat := []
def A_kfl_op_doDeed_b71_88 : List Nat := [25, 71, 101]
theorem u_kfl_op_doDeed_b71_88 (v0 : Int) (v2 : Int) (v6 : Int) (v8 : Int) (m : mR) : RP (kfl_op_doDeed_b71_88 v0 v2 v6 v8 m) (fun z : Int × mR => fr F_kfl_op_doDeed_b71_88 A_kfl_op_doDeed_b71_88 m z.2) := by
  unfold kfl_op_doDeed_b71_88
  refine RP_ite (fun h1 => ?_) (fun h1 => ?_)
  · skip
    exact RP_w (u_kfl_op_doDeed_b71_131 v0 v2 v6 v8 0 m) (fun z hz => (fr_s hz fr_0 rfl rfl))
  · skip
    refine RP_bnd (u_kf_nd_valueOf_b101_b105 ((m.2 50) v2) ((m.2 51) v2) v0 v0 m) (fun y15 h2 => ?_)
    have h3 : fr F_kfl_op_doDeed_b71_88 A_kfl_op_doDeed_b71_88 m y15.2 := (fr_s h2 fr_0 rfl rfl)
    exact RP_w (u_kfl_op_doDeed_b71_131 v0 v2 v6 v8 y15.1 y15.2) (fun z hz => (fr_s hz h3 rfl rfl))
theorem u_kf_op_doDeed_b71 (v0 : Int) (v2 : Int) (m : mR) : RP (kf_op_doDeed_b71 v0 v2 m) (fun z : Int × mR => fr kF_op_doDeed_b71 kA_op_doDeed_b71 m z.2) := by
  unfold kf_op_doDeed_b71
  refine RP_ite (fun h1 => ?_) (fun h1 => ?_)
  · skip
    exact RP_w (u_kfl_op_doDeed_b71_88 v0 v2 ((m.2 46) v2) (-1) m) (fun z hz => (fr_s hz fr_0 rfl rfl))
  · skip
    refine RP_bnd (u_kf_nd_valueOf_b101_b105 ((m.2 48) v2) ((m.2 49) v2) v0 v0 m) (fun y19 h2 => ?_)
    have h3 : fr kF_op_doDeed_b71 kA_op_doDeed_b71 m y19.2 := (fr_s h2 fr_0 rfl rfl)
    refine RP_bndT (fun y22 => ?_)
    exact RP_w (u_kfl_op_doDeed_b71_88 v0 v2 ((m.2 46) v2) (cut ((cut (((m.2 47) v2) * 64)) + y22)) y19.2) (fun z hz => (fr_s hz h3 rfl rfl))
def kF_op_apply_b71 : List Nat := []
def kA_op_apply_b71 : List Nat := [25, 71, 101, 103, 105]
def F_kfb_op_apply_b71_149 : List Nat := []
def A_kfb_op_apply_b71_149 : List Nat := [25, 71, 101]
theorem u_kfb_op_apply_b71_149 (v0 : Int) (v6 : Int) (s : Int × mR) : RP (kfb_op_apply_b71_149 v0 v6 s) (sel (fun z : (Int × mR) => fr F_kfb_op_apply_b71_149 A_kfb_op_apply_b71_149 s.2 z.2) (fun z : mR => fr F_kfb_op_apply_b71_149 A_kfb_op_apply_b71_149 s.2 z)) := by
  unfold kfb_op_apply_b71_149
  refine RP_ite (fun h1 => ?_) (fun h1 => ?_)
  · skip
    exact RP_some fr_0
  · skip
    refine RP_bnd (u_kf_op_doDeed_b71 v0 (cut (((s.2.2 43) v6) + s.1)) s.2) (fun y5 h2 => ?_)
    have h3 : fr F_kfb_op_apply_b71_149 A_kfb_op_apply_b71_149 s.2 y5.2 := (fr_s h2 fr_0 rfl rfl)
    exact RP_some h3
theorem uw_kfb_op_apply_b71_149 (v0 : Int) (v6 : Int) (s : Int × mR) : RP (whl (kfb_op_apply_b71_149 v0 v6) s) (fun z : mR => fr F_kfb_op_apply_b71_149 A_kfb_op_apply_b71_149 s.2 z) := RP_whl (I := fun q : Int × mR => fr F_kfb_op_apply_b71_149 A_kfb_op_apply_b71_149 s.2 q.2) (fun q hq => RP_w (u_kfb_op_apply_b71_149 v0 v6 q) (sl_w (fun z hz => (fr_s hz hq rfl rfl)) (fun z hz => (fr_s hz hq rfl rfl)))) fr_0
def F_kfl_op_apply_b71_140 : List Nat := []
def A_kfl_op_apply_b71_140 : List Nat := [25, 71, 101]
theorem u_kfl_op_apply_b71_140 (v0 : Int) (v6 : Int) (m : mR) : RP (kfl_op_apply_b71_140 v0 v6 m) (fun z : Int × mR => fr F_kfl_op_apply_b71_140 A_kfl_op_apply_b71_140 m z.2) := by
  unfold kfl_op_apply_b71_140
  refine RP_bnd (uw_kfb_op_apply_b71_149 v0 v6 (0, m)) (fun e8 h1 => ?_)
  have h2 : fr F_kfl_op_apply_b71_140 A_kfl_op_apply_b71_140 m e8 := (fr_s h1 fr_0 rfl rfl)
  exact RP_some h2
def F_kfl_op_apply_b71_111 : List Nat := []
def A_kfl_op_apply_b71_111 : List Nat := [25, 71, 101, 105]
theorem u_kfl_op_apply_b71_111 (v0 : Int) (v2 : Int) (v5 : Int) (v6 : Int) (u0 : Int) (m : mR) : RP (kfl_op_apply_b71_111 v0 v2 v5 v6 u0 m) (fun z : Int × mR => fr F_kfl_op_apply_b71_111 A_kfl_op_apply_b71_111 m z.2) := by
  unfold kfl_op_apply_b71_111
  refine RP_ite (fun h1 => ?_) (fun h1 => ?_)
  · skip
    exact RP_w (u_kfl_op_apply_b71_140 v0 v6 (mO m [] [(105, cpI (m.2 84) (m.2 105) (65536 * v2 + u0) (65536 * v0 + 0) 4)])) (fun z hz => (fr_s hz (fr_m fr_0 rfl rfl) rfl rfl))
  · skip
    exact RP_w (u_kfl_op_apply_b71_140 v0 v6 (mO m [] [(105, cpI (m.2 87) (m.2 105) (65536 * v2 + u0) (65536 * v0 + 0) 4)])) (fun z hz => (fr_s hz (fr_m fr_0 rfl rfl) rfl rfl))
def F_kfl_op_apply_b71_96 : List Nat := []
def A_kfl_op_apply_b71_96 : List Nat := [25, 71, 101, 105]
theorem u_kfl_op_apply_b71_96 (v0 : Int) (v2 : Int) (v4 : Int) (v5 : Int) (u0 : Int) (m : mR) : RP (kfl_op_apply_b71_96 v0 v2 v4 v5 u0 m) (fun z : Int × mR => fr F_kfl_op_apply_b71_96 A_kfl_op_apply_b71_96 m z.2) := by
  unfold kfl_op_apply_b71_96
  refine RP_ite (fun h1 => ?_) (fun h1 => ?_)
  · skip
    exact RP_w (u_kfl_op_apply_b71_111 v0 v2 v5 u0 0 m) (fun z hz => (fr_s hz fr_0 rfl rfl))
  · skip
    exact RP_w (u_kfl_op_apply_b71_111 v0 v2 v5 u0 (cut (v4 * 4)) m) (fun z hz => (fr_s hz fr_0 rfl rfl))
def F_kfl_op_apply_b71_75 : List Nat := []
def A_kfl_op_apply_b71_75 : List Nat := [25, 71, 101, 105]
theorem u_kfl_op_apply_b71_75 (v0 : Int) (v2 : Int) (v4 : Int) (u0 : Int) (m : mR) : RP (kfl_op_apply_b71_75 v0 v2 v4 u0 m) (fun z : Int × mR => fr F_kfl_op_apply_b71_75 A_kfl_op_apply_b71_75 m z.2) := by
  unfold kfl_op_apply_b71_75
  refine RP_ite (fun h1 => ?_) (fun h1 => ?_)
  · skip
    exact RP_w (u_kfl_op_apply_b71_96 v0 v2 v4 u0 ((m.2 74) v2) m) (fun z hz => (fr_s hz fr_0 rfl rfl))
  · skip
    exact RP_w (u_kfl_op_apply_b71_96 v0 v2 v4 u0 ((m.2 89) (65536 * v2 + v4)) m) (fun z hz => (fr_s hz fr_0 rfl rfl))
def F_kfl_op_apply_b71_54 : List Nat := []
def A_kfl_op_apply_b71_54 : List Nat := [25, 71, 101, 105]
theorem u_kfl_op_apply_b71_54 (v0 : Int) (v2 : Int) (m : mR) : RP (kfl_op_apply_b71_54 v0 v2 m) (fun z : Int × mR => fr F_kfl_op_apply_b71_54 A_kfl_op_apply_b71_54 m z.2) := by
  unfold kfl_op_apply_b71_54
  refine RP_bndT (fun y14 => ?_)
  refine RP_ite (fun h1 => ?_) (fun h1 => ?_)
  · skip
    exact RP_w (u_kfl_op_apply_b71_75 v0 v2 y14 0 m) (fun z hz => (fr_s hz fr_0 rfl rfl))
  · skip
    exact RP_w (u_kfl_op_apply_b71_75 v0 v2 y14 1 m) (fun z hz => (fr_s hz fr_0 rfl rfl))
def F_kfb_op_apply_b71_3 : List Nat := []
def A_kfb_op_apply_b71_3 : List Nat := [25, 103]
theorem u_kfb_op_apply_b71_3 (v0 : Int) (v2 : Int) (s : Int × mR) : RP (kfb_op_apply_b71_3 v0 v2 s) (sel (fun z : (Int × mR) => fr F_kfb_op_apply_b71_3 A_kfb_op_apply_b71_3 s.2 z.2) (fun z : mR => fr F_kfb_op_apply_b71_3 A_kfb_op_apply_b71_3 s.2 z)) := by
  unfold kfb_op_apply_b71_3
  refine RP_ite (fun h1 => ?_) (fun h1 => ?_)
  · skip
    exact RP_some fr_0
  · skip
    refine RP_bnd (u_kf_nd_valueOf_b101_b105 ((s.2.2 79) (65536 * v2 + s.1)) ((s.2.2 80) (65536 * v2 + s.1)) v0 v0 s.2) (fun y20 h2 => ?_)
    have h3 : fr F_kfb_op_apply_b71_3 A_kfb_op_apply_b71_3 s.2 y20.2 := (fr_s h2 fr_0 rfl rfl)
    exact RP_some (fr_m h3 rfl rfl)
theorem uw_kfb_op_apply_b71_3 (v0 : Int) (v2 : Int) (s : Int × mR) : RP (whl (kfb_op_apply_b71_3 v0 v2) s) (fun z : mR => fr F_kfb_op_apply_b71_3 A_kfb_op_apply_b71_3 s.2 z) := RP_whl (I := fun q : Int × mR => fr F_kfb_op_apply_b71_3 A_kfb_op_apply_b71_3 s.2 q.2) (fun q hq => RP_w (u_kfb_op_apply_b71_3 v0 v2 q) (sl_w (fun z hz => (fr_s hz hq rfl rfl)) (fun z hz => (fr_s hz hq rfl rfl)))) fr_0
theorem u_kf_op_apply_b71 (v0 : Int) (v2 : Int) (m : mR) : RP (kf_op_apply_b71 v0 v2 m) (fun z : Int × mR => fr kF_op_apply_b71 kA_op_apply_b71 m z.2) := by
  unfold kf_op_apply_b71
  refine RP_bnd (uw_kfb_op_apply_b71_3 v0 v2 (0, m)) (fun e23 h1 => ?_)
  have h2 : fr kF_op_apply_b71 kA_op_apply_b71 m e23 := (fr_s h1 fr_0 rfl rfl)
  exact RP_w (u_kfl_op_apply_b71_54 v0 v2 e23) (fun z hz => (fr_s hz h2 rfl rfl))
def kF_op_doStep_b71 : List Nat := []
def kA_op_doStep_b71 : List Nat := [25, 71, 101, 103, 105]
theorem u_kf_op_doStep_b71 (v0 : Int) (v2 : Int) (m : mR) : RP (kf_op_doStep_b71 v0 v2 m) (fun z : Int × mR => fr kF_op_doStep_b71 kA_op_doStep_b71 m z.2) := by
  unfold kf_op_doStep_b71
  refine RP_ite (fun h1 => ?_) (fun h1 => ?_)
  · skip
    refine RP_bnd (u_kf_nd_valueOf_b101_b105 ((m.2 57) v2) ((m.2 58) v2) v0 v0 m) (fun y10 h2 => ?_)
    have h3 : fr kF_op_doStep_b71 kA_op_doStep_b71 m y10.2 := (fr_s h2 fr_0 rfl rfl)
    exact RP_some h3
  · skip
    refine RP_ite (fun h4 => ?_) (fun h4 => ?_)
    · skip
      refine RP_bnd (u_kf_op_apply_b71 v0 ((m.2 55) v2) m) (fun y7 h5 => ?_)
      have h6 : fr kF_op_doStep_b71 kA_op_doStep_b71 m y7.2 := (fr_s h5 fr_0 rfl rfl)
      exact RP_some h6
    · skip
      refine RP_bnd (u_kf_op_doDeed_b71 v0 ((m.2 56) v2) m) (fun y3 h7 => ?_)
      have h8 : fr kF_op_doStep_b71 kA_op_doStep_b71 m y3.2 := (fr_s h7 fr_0 rfl rfl)
      exact RP_some h8
def kF_tb_cutKeys_b103_b104 : List Nat := []
def kA_tb_cutKeys_b103_b104 : List Nat := [103, 104]
def F_kfl_tb_cutKeys_b103_b104_114 : List Nat := []
def A_kfl_tb_cutKeys_b103_b104_114 : List Nat := []
theorem u_kfl_tb_cutKeys_b103_b104_114 (v0 : Int) (v1 : Int) (v2 : Int) (v4 : Int) (u0 : Int) (u1 : Int) (m : mR) : RP (kfl_tb_cutKeys_b103_b104_114 v0 v1 v2 v4 u0 u1 m) (sel (fun z : (Int × Int × mR) => fr F_kfl_tb_cutKeys_b103_b104_114 A_kfl_tb_cutKeys_b103_b104_114 m z.2.2) (fun z : Int × mR => fr F_kfl_tb_cutKeys_b103_b104_114 A_kfl_tb_cutKeys_b103_b104_114 m z.2)) := by
  unfold kfl_tb_cutKeys_b103_b104_114
  exact RP_some fr_0
def F_kfl_tb_cutKeys_b103_b104_109 : List Nat := []
def A_kfl_tb_cutKeys_b103_b104_109 : List Nat := []
theorem u_kfl_tb_cutKeys_b103_b104_109 (v0 : Int) (v1 : Int) (v2 : Int) (v4 : Int) (u0 : Int) (m : mR) : RP (kfl_tb_cutKeys_b103_b104_109 v0 v1 v2 v4 u0 m) (sel (fun z : (Int × Int × mR) => fr F_kfl_tb_cutKeys_b103_b104_109 A_kfl_tb_cutKeys_b103_b104_109 m z.2.2) (fun z : Int × mR => fr F_kfl_tb_cutKeys_b103_b104_109 A_kfl_tb_cutKeys_b103_b104_109 m z.2)) := by
  unfold kfl_tb_cutKeys_b103_b104_109
  exact RP_w (u_kfl_tb_cutKeys_b103_b104_114 v0 v1 v2 v4 u0 1 m) (sl_w (fun z hz => (fr_s hz fr_0 rfl rfl)) (fun z hz => (fr_s hz fr_0 rfl rfl)))
def F_kfl_tb_cutKeys_b103_b104_81 : List Nat := []
def A_kfl_tb_cutKeys_b103_b104_81 : List Nat := []
theorem u_kfl_tb_cutKeys_b103_b104_81 (v0 : Int) (v1 : Int) (v2 : Int) (v4 : Int) (v7 : Int) (u0 : Int) (u1 : Int) (m : mR) : RP (kfl_tb_cutKeys_b103_b104_81 v0 v1 v2 v4 v7 u0 u1 m) (sel (fun z : (Int × Int × mR) => fr F_kfl_tb_cutKeys_b103_b104_81 A_kfl_tb_cutKeys_b103_b104_81 m z.2.2) (fun z : Int × mR => fr F_kfl_tb_cutKeys_b103_b104_81 A_kfl_tb_cutKeys_b103_b104_81 m z.2)) := by
  unfold kfl_tb_cutKeys_b103_b104_81
  refine RP_ite (fun h1 => ?_) (fun h1 => ?_)
  · skip
    refine RP_ite (fun h2 => ?_) (fun h2 => ?_)
    · skip
      exact RP_w (u_kfl_tb_cutKeys_b103_b104_109 v0 v1 v2 v4 (and32 u0 u1) m) (sl_w (fun z hz => (fr_s hz fr_0 rfl rfl)) (fun z hz => (fr_s hz fr_0 rfl rfl)))
    · skip
      exact RP_w (u_kfl_tb_cutKeys_b103_b104_114 v0 v1 v2 v4 (and32 u0 u1) 0 m) (sl_w (fun z hz => (fr_s hz fr_0 rfl rfl)) (fun z hz => (fr_s hz fr_0 rfl rfl)))
  · skip
    exact RP_w (u_kfl_tb_cutKeys_b103_b104_109 v0 v1 v2 v4 (and32 u0 u1) m) (sl_w (fun z hz => (fr_s hz fr_0 rfl rfl)) (fun z hz => (fr_s hz fr_0 rfl rfl)))
def F_kfl_tb_cutKeys_b103_b104_76 : List Nat := []
def A_kfl_tb_cutKeys_b103_b104_76 : List Nat := []
theorem u_kfl_tb_cutKeys_b103_b104_76 (v0 : Int) (v1 : Int) (v2 : Int) (v4 : Int) (v7 : Int) (u0 : Int) (m : mR) : RP (kfl_tb_cutKeys_b103_b104_76 v0 v1 v2 v4 v7 u0 m) (sel (fun z : (Int × Int × mR) => fr F_kfl_tb_cutKeys_b103_b104_76 A_kfl_tb_cutKeys_b103_b104_76 m z.2.2) (fun z : Int × mR => fr F_kfl_tb_cutKeys_b103_b104_76 A_kfl_tb_cutKeys_b103_b104_76 m z.2)) := by
  unfold kfl_tb_cutKeys_b103_b104_76
  exact RP_w (u_kfl_tb_cutKeys_b103_b104_81 v0 v1 v2 v4 v7 u0 1 m) (sl_w (fun z hz => (fr_s hz fr_0 rfl rfl)) (fun z hz => (fr_s hz fr_0 rfl rfl)))
def F_kfb_tb_cutKeys_b103_b104_5 : List Nat := []
def A_kfb_tb_cutKeys_b103_b104_5 : List Nat := [103, 104]
theorem u_kfb_tb_cutKeys_b103_b104_5 (v0 : Int) (v1 : Int) (v2 : Int) (s : Int × Int × mR) : RP (kfb_tb_cutKeys_b103_b104_5 v0 v1 v2 s) (sel (fun z : (Int × Int × mR) => fr F_kfb_tb_cutKeys_b103_b104_5 A_kfb_tb_cutKeys_b103_b104_5 s.2.2 z.2.2) (fun z : Int × mR => fr F_kfb_tb_cutKeys_b103_b104_5 A_kfb_tb_cutKeys_b103_b104_5 s.2.2 z.2)) := by
  unfold kfb_tb_cutKeys_b103_b104_5
  refine RP_ite (fun h1 => ?_) (fun h1 => ?_)
  · skip
    exact RP_some fr_0
  · skip
    refine RP_bndT (fun y8 => ?_)
    refine RP_ite (fun h2 => ?_) (fun h2 => ?_)
    · skip
      refine RP_ite (fun h3 => ?_) (fun h3 => ?_)
      · skip
        exact RP_w (u_kfl_tb_cutKeys_b103_b104_76 v0 v1 v2 s.2.1 (xor64 ((upI (s.2.2.2 104) (65536 * v2 + s.2.1) (and64 ((s.2.2.2 104) (65536 * v2 + s.2.1)) y8)) (65536 * v2 + s.2.1)) y8) s.1 (mO s.2.2 [] [(103, upI (s.2.2.2 103) (65536 * v1 + s.2.1) (and64 ((s.2.2.2 103) (65536 * v1 + s.2.1)) ((upI (s.2.2.2 104) (65536 * v2 + s.2.1) (and64 ((s.2.2.2 104) (65536 * v2 + s.2.1)) y8)) (65536 * v2 + s.2.1)))), (104, upI (s.2.2.2 104) (65536 * v2 + s.2.1) (and64 ((s.2.2.2 104) (65536 * v2 + s.2.1)) y8))])) (sl_w (fun z hz => (fr_s hz (fr_m fr_0 rfl rfl) rfl rfl)) (fun z hz => (fr_s hz (fr_m fr_0 rfl rfl) rfl rfl)))
      · skip
        exact RP_w (u_kfl_tb_cutKeys_b103_b104_81 v0 v1 v2 s.2.1 (xor64 ((upI (s.2.2.2 104) (65536 * v2 + s.2.1) (and64 ((s.2.2.2 104) (65536 * v2 + s.2.1)) y8)) (65536 * v2 + s.2.1)) y8) s.1 0 (mO s.2.2 [] [(103, upI (s.2.2.2 103) (65536 * v1 + s.2.1) (and64 ((s.2.2.2 103) (65536 * v1 + s.2.1)) ((upI (s.2.2.2 104) (65536 * v2 + s.2.1) (and64 ((s.2.2.2 104) (65536 * v2 + s.2.1)) y8)) (65536 * v2 + s.2.1)))), (104, upI (s.2.2.2 104) (65536 * v2 + s.2.1) (and64 ((s.2.2.2 104) (65536 * v2 + s.2.1)) y8))])) (sl_w (fun z hz => (fr_s hz (fr_m fr_0 rfl rfl) rfl rfl)) (fun z hz => (fr_s hz (fr_m fr_0 rfl rfl) rfl rfl)))
    · skip
      exact RP_w (u_kfl_tb_cutKeys_b103_b104_76 v0 v1 v2 s.2.1 (xor64 ((upI (s.2.2.2 104) (65536 * v2 + s.2.1) (and64 ((s.2.2.2 104) (65536 * v2 + s.2.1)) y8)) (65536 * v2 + s.2.1)) y8) s.1 (mO s.2.2 [] [(103, upI (s.2.2.2 103) (65536 * v1 + s.2.1) (and64 ((s.2.2.2 103) (65536 * v1 + s.2.1)) ((upI (s.2.2.2 104) (65536 * v2 + s.2.1) (and64 ((s.2.2.2 104) (65536 * v2 + s.2.1)) y8)) (65536 * v2 + s.2.1)))), (104, upI (s.2.2.2 104) (65536 * v2 + s.2.1) (and64 ((s.2.2.2 104) (65536 * v2 + s.2.1)) y8))])) (sl_w (fun z hz => (fr_s hz (fr_m fr_0 rfl rfl) rfl rfl)) (fun z hz => (fr_s hz (fr_m fr_0 rfl rfl) rfl rfl)))
theorem uw_kfb_tb_cutKeys_b103_b104_5 (v0 : Int) (v1 : Int) (v2 : Int) (s : Int × Int × mR) : RP (whl (kfb_tb_cutKeys_b103_b104_5 v0 v1 v2) s) (fun z : Int × mR => fr F_kfb_tb_cutKeys_b103_b104_5 A_kfb_tb_cutKeys_b103_b104_5 s.2.2 z.2) := RP_whl (I := fun q : Int × Int × mR => fr F_kfb_tb_cutKeys_b103_b104_5 A_kfb_tb_cutKeys_b103_b104_5 s.2.2 q.2.2) (fun q hq => RP_w (u_kfb_tb_cutKeys_b103_b104_5 v0 v1 v2 q) (sl_w (fun z hz => (fr_s hz hq rfl rfl)) (fun z hz => (fr_s hz hq rfl rfl)))) fr_0
theorem u_kf_tb_cutKeys_b103_b104 (v0 : Int) (v1 : Int) (v2 : Int) (m : mR) : RP (kf_tb_cutKeys_b103_b104 v0 v1 v2 m) (fun z : Int × mR => fr kF_tb_cutKeys_b103_b104 kA_tb_cutKeys_b103_b104 m z.2) := by
  unfold kf_tb_cutKeys_b103_b104
  refine RP_bnd (uw_kfb_tb_cutKeys_b103_b104_5 v0 v1 v2 (1, 0, m)) (fun e13 h1 => ?_)
  have h2 : fr kF_tb_cutKeys_b103_b104 kA_tb_cutKeys_b103_b104 m e13.2 := (fr_s h1 fr_0 rfl rfl)
  exact RP_some h2
def kF_Arrays_fill0_b90 : List Nat := []
def kA_Arrays_fill0_b90 : List Nat := [90]
def F_kfb_Arrays_fill0_b90_5 : List Nat := []
def A_kfb_Arrays_fill0_b90_5 : List Nat := [90]
theorem u_kfb_Arrays_fill0_b90_5 (v0 : Int) (v1 : Int) (v3 : Int) (s : Int × mR) : RP (kfb_Arrays_fill0_b90_5 v0 v1 v3 s) (sel (fun z : (Int × mR) => fr F_kfb_Arrays_fill0_b90_5 A_kfb_Arrays_fill0_b90_5 s.2 z.2) (fun z : mR => fr F_kfb_Arrays_fill0_b90_5 A_kfb_Arrays_fill0_b90_5 s.2 z)) := by
  unfold kfb_Arrays_fill0_b90_5
  refine RP_ite (fun h1 => ?_) (fun h1 => ?_)
  · skip
    exact RP_some fr_0
  · skip
    exact RP_some (fr_m fr_0 rfl rfl)
theorem uw_kfb_Arrays_fill0_b90_5 (v0 : Int) (v1 : Int) (v3 : Int) (s : Int × mR) : RP (whl (kfb_Arrays_fill0_b90_5 v0 v1 v3) s) (fun z : mR => fr F_kfb_Arrays_fill0_b90_5 A_kfb_Arrays_fill0_b90_5 s.2 z) := RP_whl (I := fun q : Int × mR => fr F_kfb_Arrays_fill0_b90_5 A_kfb_Arrays_fill0_b90_5 s.2 q.2) (fun q hq => RP_w (u_kfb_Arrays_fill0_b90_5 v0 v1 v3 q) (sl_w (fun z hz => (fr_s hz hq rfl rfl)) (fun z hz => (fr_s hz hq rfl rfl)))) fr_0
theorem u_kf_Arrays_fill0_b90 (v0 : Int) (v1 : Int) (m : mR) : RP (kf_Arrays_fill0_b90 v0 v1 m) (fun z : Int × mR => fr kF_Arrays_fill0_b90 kA_Arrays_fill0_b90 m z.2) := by
  unfold kf_Arrays_fill0_b90
  refine RP_bnd (uw_kfb_Arrays_fill0_b90_5 v0 v1 16 (0, m)) (fun e4 h1 => ?_)
  have h2 : fr kF_Arrays_fill0_b90 kA_Arrays_fill0_b90 m e4 := (fr_s h1 fr_0 rfl rfl)
  exact RP_some h2
def kF_tb_above : List Nat := []
def kA_tb_above : List Nat := [90]
def F_kfl_tb_above_64 : List Nat := []
def A_kfl_tb_above_64 : List Nat := []
theorem u_kfl_tb_above_64 (v0 : Int) (v1 : Int) (v3 : Int) (u0 : Int) (u1 : Int) (m : mR) : RP (kfl_tb_above_64 v0 v1 v3 u0 u1 m) (sel (fun z : (Int × Int × mR) => fr F_kfl_tb_above_64 A_kfl_tb_above_64 m z.2.2) (fun z : Int × mR => fr F_kfl_tb_above_64 A_kfl_tb_above_64 m z.2)) := by
  unfold kfl_tb_above_64
  exact RP_some fr_0
def F_kfb_tb_above_21 : List Nat := []
def A_kfb_tb_above_21 : List Nat := [90]
theorem u_kfb_tb_above_21 (v0 : Int) (v1 : Int) (s : Int × Int × mR) : RP (kfb_tb_above_21 v0 v1 s) (sel (fun z : (Int × Int × mR) => fr F_kfb_tb_above_21 A_kfb_tb_above_21 s.2.2 z.2.2) (fun z : Int × mR => fr F_kfb_tb_above_21 A_kfb_tb_above_21 s.2.2 z.2)) := by
  unfold kfb_tb_above_21
  refine RP_ite (fun h1 => ?_) (fun h1 => ?_)
  · skip
    exact RP_some fr_0
  · skip
    refine RP_bndT (fun y6 => ?_)
    refine RP_ite (fun h2 => ?_) (fun h2 => ?_)
    · skip
      exact RP_w (u_kfl_tb_above_64 v0 v1 s.2.1 s.1 0 (mO s.2.2 [] [(90, upI (s.2.2.2 90) (65536 * v0 + y6) (cut (((s.2.2.2 90) (65536 * v0 + y6)) + 1)))])) (sl_w (fun z hz => (fr_s hz (fr_m fr_0 rfl rfl) rfl rfl)) (fun z hz => (fr_s hz (fr_m fr_0 rfl rfl) rfl rfl)))
    · skip
      exact RP_w (u_kfl_tb_above_64 v0 v1 s.2.1 s.1 1 (mO s.2.2 [] [(90, upI (s.2.2.2 90) (65536 * v0 + y6) (cut (((s.2.2.2 90) (65536 * v0 + y6)) + 1)))])) (sl_w (fun z hz => (fr_s hz (fr_m fr_0 rfl rfl) rfl rfl)) (fun z hz => (fr_s hz (fr_m fr_0 rfl rfl) rfl rfl)))
theorem uw_kfb_tb_above_21 (v0 : Int) (v1 : Int) (s : Int × Int × mR) : RP (whl (kfb_tb_above_21 v0 v1) s) (fun z : Int × mR => fr F_kfb_tb_above_21 A_kfb_tb_above_21 s.2.2 z.2) := RP_whl (I := fun q : Int × Int × mR => fr F_kfb_tb_above_21 A_kfb_tb_above_21 s.2.2 q.2.2) (fun q hq => RP_w (u_kfb_tb_above_21 v0 v1 q) (sl_w (fun z hz => (fr_s hz hq rfl rfl)) (fun z hz => (fr_s hz hq rfl rfl)))) fr_0
theorem u_kf_tb_above (v0 : Int) (v1 : Int) (m : mR) : RP (kf_tb_above v0 v1 m) (fun z : Int × mR => fr kF_tb_above kA_tb_above m z.2) := by
  unfold kf_tb_above
  refine RP_bndT (fun y10 => ?_)
  refine RP_ite (fun h1 => ?_) (fun h1 => ?_)
  · skip
    exact RP_some fr_0
  · skip
    refine RP_bnd (u_kf_Arrays_fill0_b90 v0 0 m) (fun y14 h2 => ?_)
    have h3 : fr kF_tb_above kA_tb_above m y14.2 := (fr_s h2 fr_0 rfl rfl)
    refine RP_bnd (uw_kfb_tb_above_21 v0 v1 (0, 0, y14.2)) (fun e17 h4 => ?_)
    have h5 : fr kF_tb_above kA_tb_above m e17.2 := (fr_s h4 h3 rfl rfl)
    exact RP_some h5
def kF_tb_append : List Nat := []
def kA_tb_append : List Nat := [78, 85, 86, 88, 90]
def F_kfl_tb_append_154 : List Nat := []
def A_kfl_tb_append_154 : List Nat := []
theorem u_kfl_tb_append_154 (u0 : Int) (m : mR) : RP (kfl_tb_append_154 u0 m) (fun z : Int × mR => fr F_kfl_tb_append_154 A_kfl_tb_append_154 m z.2) := by
  unfold kfl_tb_append_154
  exact RP_some fr_0
def F_kfl_tb_append_141 : List Nat := []
def A_kfl_tb_append_141 : List Nat := [78]
theorem u_kfl_tb_append_141 (v2 : Int) (u0 : Int) (u1 : Int) (u2 : Int) (m : mR) : RP (kfl_tb_append_141 v2 u0 u1 u2 m) (fun z : Int × mR => fr F_kfl_tb_append_141 A_kfl_tb_append_141 m z.2) := by
  unfold kfl_tb_append_141
  refine RP_ite (fun h1 => ?_) (fun h1 => ?_)
  · skip
    exact RP_w (u_kfl_tb_append_154 1 (mO m [] [(78, upI (m.2 78) u0 (cut (u1 + u2)))])) (fun z hz => (fr_s hz (fr_m fr_0 rfl rfl) rfl rfl))
  · skip
    exact RP_w (u_kfl_tb_append_154 0 (mO m [] [(78, upI (m.2 78) u0 (cut (u1 + u2)))])) (fun z hz => (fr_s hz (fr_m fr_0 rfl rfl) rfl rfl))
def F_kfl_tb_append_126 : List Nat := []
def A_kfl_tb_append_126 : List Nat := [78]
theorem u_kfl_tb_append_126 (v0 : Int) (u0 : Int) (m : mR) : RP (kfl_tb_append_126 v0 u0 m) (fun z : Int × mR => fr F_kfl_tb_append_126 A_kfl_tb_append_126 m z.2) := by
  unfold kfl_tb_append_126
  refine RP_ite (fun h1 => ?_) (fun h1 => ?_)
  · skip
    exact RP_w (u_kfl_tb_append_141 u0 v0 ((m.2 78) v0) 1 m) (fun z hz => (fr_s hz fr_0 rfl rfl))
  · skip
    exact RP_w (u_kfl_tb_append_141 u0 v0 ((m.2 78) v0) 0 m) (fun z hz => (fr_s hz fr_0 rfl rfl))
def F_kfl_tb_append_65 : List Nat := []
def A_kfl_tb_append_65 : List Nat := [78, 88, 90]
theorem u_kfl_tb_append_65 (v0 : Int) (v1 : Int) (m : mR) : RP (kfl_tb_append_65 v0 v1 m) (fun z : Int × mR => fr F_kfl_tb_append_65 A_kfl_tb_append_65 m z.2) := by
  unfold kfl_tb_append_65
  refine RP_bndT (fun y4 => ?_)
  refine RP_ite (fun h1 => ?_) (fun h1 => ?_)
  · skip
    refine RP_ite (fun h2 => ?_) (fun h2 => ?_)
    · skip
      exact RP_w (u_kfl_tb_append_126 v0 0 (mO m [] [(88, upI (m.2 88) (65536 * v0 + ((m.2 78) v0)) ((m.2 96) v1))])) (fun z hz => (fr_s hz (fr_m fr_0 rfl rfl) rfl rfl))
    · skip
      exact RP_w (u_kfl_tb_append_126 v0 1 (mO m [] [(88, upI (m.2 88) (65536 * v0 + ((m.2 78) v0)) ((m.2 96) v1))])) (fun z hz => (fr_s hz (fr_m fr_0 rfl rfl) rfl rfl))
  · skip
    refine RP_bnd (u_kf_tb_above v0 (cut (((m.2 78) v0) + 1)) (mO m [] [(88, upI (m.2 88) (65536 * v0 + ((m.2 78) v0)) ((m.2 96) v1))])) (fun y9 h3 => ?_)
    have h4 : fr F_kfl_tb_append_65 A_kfl_tb_append_65 m y9.2 := (fr_s h3 (fr_m fr_0 rfl rfl) rfl rfl)
    refine RP_ite (fun h5 => ?_) (fun h5 => ?_)
    · skip
      exact RP_w (u_kfl_tb_append_126 v0 0 y9.2) (fun z hz => (fr_s hz h4 rfl rfl))
    · skip
      exact RP_w (u_kfl_tb_append_126 v0 1 y9.2) (fun z hz => (fr_s hz h4 rfl rfl))
def F_kfb_tb_append_13 : List Nat := []
def A_kfb_tb_append_13 : List Nat := [85, 86]
theorem u_kfb_tb_append_13 (v0 : Int) (v1 : Int) (s : Int × mR) : RP (kfb_tb_append_13 v0 v1 s) (sel (fun z : (Int × mR) => fr F_kfb_tb_append_13 A_kfb_tb_append_13 s.2 z.2) (fun z : mR => fr F_kfb_tb_append_13 A_kfb_tb_append_13 s.2 z)) := by
  unfold kfb_tb_append_13
  refine RP_ite (fun h1 => ?_) (fun h1 => ?_)
  · skip
    exact RP_some fr_0
  · skip
    exact RP_some (fr_m fr_0 rfl rfl)
theorem uw_kfb_tb_append_13 (v0 : Int) (v1 : Int) (s : Int × mR) : RP (whl (kfb_tb_append_13 v0 v1) s) (fun z : mR => fr F_kfb_tb_append_13 A_kfb_tb_append_13 s.2 z) := RP_whl (I := fun q : Int × mR => fr F_kfb_tb_append_13 A_kfb_tb_append_13 s.2 q.2) (fun q hq => RP_w (u_kfb_tb_append_13 v0 v1 q) (sl_w (fun z hz => (fr_s hz hq rfl rfl)) (fun z hz => (fr_s hz hq rfl rfl)))) fr_0
theorem u_kf_tb_append (v0 : Int) (v1 : Int) (m : mR) : RP (kf_tb_append v0 v1 m) (fun z : Int × mR => fr kF_tb_append kA_tb_append m z.2) := by
  unfold kf_tb_append
  refine RP_ite (fun h1 => ?_) (fun h1 => ?_)
  · skip
    refine RP_bnd (uw_kfb_tb_append_13 v0 v1 (0, m)) (fun e16 h2 => ?_)
    have h3 : fr kF_tb_append kA_tb_append m e16 := (fr_s h2 fr_0 rfl rfl)
    exact RP_w (u_kfl_tb_append_65 v0 v1 e16) (fun z hz => (fr_s hz h3 rfl rfl))
  · skip
    exact RP_some fr_0
def kF_tb_remove : List Nat := []
def kA_tb_remove : List Nat := [78, 85, 86, 87, 88, 89]
def F_kfl_tb_remove_125 : List Nat := []
def A_kfl_tb_remove_125 : List Nat := [78]
theorem u_kfl_tb_remove_125 (v0 : Int) (m : mR) : RP (kfl_tb_remove_125 v0 m) (fun z : Int × mR => fr F_kfl_tb_remove_125 A_kfl_tb_remove_125 m z.2) := by
  unfold kfl_tb_remove_125
  exact RP_some (fr_m fr_0 rfl rfl)
def F_kfl_tb_remove_91 : List Nat := []
def A_kfl_tb_remove_91 : List Nat := [88, 89]
theorem u_kfl_tb_remove_91 (v0 : Int) (v2 : Int) (m : mR) : RP (kfl_tb_remove_91 v0 v2 m) (sel (fun z : (Int × mR) => fr F_kfl_tb_remove_91 A_kfl_tb_remove_91 m z.2) (fun z : mR => fr F_kfl_tb_remove_91 A_kfl_tb_remove_91 m z)) := by
  unfold kfl_tb_remove_91
  exact RP_some (fr_m fr_0 rfl rfl)
def F_kfb_tb_remove_14 : List Nat := []
def A_kfb_tb_remove_14 : List Nat := [85, 86, 87]
theorem u_kfb_tb_remove_14 (v0 : Int) (v2 : Int) (s : Int × mR) : RP (kfb_tb_remove_14 v0 v2 s) (sel (fun z : (Int × mR) => fr F_kfb_tb_remove_14 A_kfb_tb_remove_14 s.2 z.2) (fun z : mR => fr F_kfb_tb_remove_14 A_kfb_tb_remove_14 s.2 z)) := by
  unfold kfb_tb_remove_14
  refine RP_ite (fun h1 => ?_) (fun h1 => ?_)
  · skip
    exact RP_some fr_0
  · skip
    exact RP_some (fr_m fr_0 rfl rfl)
theorem uw_kfb_tb_remove_14 (v0 : Int) (v2 : Int) (s : Int × mR) : RP (whl (kfb_tb_remove_14 v0 v2) s) (fun z : mR => fr F_kfb_tb_remove_14 A_kfb_tb_remove_14 s.2 z) := RP_whl (I := fun q : Int × mR => fr F_kfb_tb_remove_14 A_kfb_tb_remove_14 s.2 q.2) (fun q hq => RP_w (u_kfb_tb_remove_14 v0 v2 q) (sl_w (fun z hz => (fr_s hz hq rfl rfl)) (fun z hz => (fr_s hz hq rfl rfl)))) fr_0
def F_kfb_tb_remove_2 : List Nat := []
def A_kfb_tb_remove_2 : List Nat := [85, 86, 87, 88, 89]
theorem u_kfb_tb_remove_2 (v0 : Int) (s : Int × mR) : RP (kfb_tb_remove_2 v0 s) (sel (fun z : (Int × mR) => fr F_kfb_tb_remove_2 A_kfb_tb_remove_2 s.2 z.2) (fun z : mR => fr F_kfb_tb_remove_2 A_kfb_tb_remove_2 s.2 z)) := by
  unfold kfb_tb_remove_2
  refine RP_ite (fun h1 => ?_) (fun h1 => ?_)
  · skip
    exact RP_some fr_0
  · skip
    refine RP_bnd (uw_kfb_tb_remove_14 v0 s.1 (0, s.2)) (fun e7 h2 => ?_)
    have h3 : fr F_kfb_tb_remove_2 A_kfb_tb_remove_2 s.2 e7 := (fr_s h2 fr_0 rfl rfl)
    exact RP_w (u_kfl_tb_remove_91 v0 s.1 e7) (sl_w (fun z hz => (fr_s hz h3 rfl rfl)) (fun z hz => (fr_s hz h3 rfl rfl)))
theorem uw_kfb_tb_remove_2 (v0 : Int) (s : Int × mR) : RP (whl (kfb_tb_remove_2 v0) s) (fun z : mR => fr F_kfb_tb_remove_2 A_kfb_tb_remove_2 s.2 z) := RP_whl (I := fun q : Int × mR => fr F_kfb_tb_remove_2 A_kfb_tb_remove_2 s.2 q.2) (fun q hq => RP_w (u_kfb_tb_remove_2 v0 q) (sl_w (fun z hz => (fr_s hz hq rfl rfl)) (fun z hz => (fr_s hz hq rfl rfl)))) fr_0
theorem u_kf_tb_remove (v0 : Int) (v1 : Int) (m : mR) : RP (kf_tb_remove v0 v1 m) (fun z : Int × mR => fr kF_tb_remove kA_tb_remove m z.2) := by
  unfold kf_tb_remove
  refine RP_bnd (uw_kfb_tb_remove_2 v0 (v1, m)) (fun e10 h1 => ?_)
  have h2 : fr kF_tb_remove kA_tb_remove m e10 := (fr_s h1 fr_0 rfl rfl)
  exact RP_w (u_kfl_tb_remove_125 v0 e10) (fun z hz => (fr_s hz h2 rfl rfl))
def kF_tb_serve : List Nat := []
def kA_tb_serve : List Nat := [78, 85, 86, 87, 88, 89, 90, 103, 104]
def F_kfb_tb_serve_147 : List Nat := []
def A_kfb_tb_serve_147 : List Nat := [87]
theorem u_kfb_tb_serve_147 (v0 : Int) (v1 : Int) (v5 : Int) (s : Int × mR) : RP (kfb_tb_serve_147 v0 v1 v5 s) (sel (fun z : (Int × mR) => fr F_kfb_tb_serve_147 A_kfb_tb_serve_147 s.2 z.2) (fun z : mR => fr F_kfb_tb_serve_147 A_kfb_tb_serve_147 s.2 z)) := by
  unfold kfb_tb_serve_147
  refine RP_ite (fun h1 => ?_) (fun h1 => ?_)
  · skip
    exact RP_some fr_0
  · skip
    refine RP_bndT (fun y4 => ?_)
    exact RP_some (fr_m fr_0 rfl rfl)
theorem uw_kfb_tb_serve_147 (v0 : Int) (v1 : Int) (v5 : Int) (s : Int × mR) : RP (whl (kfb_tb_serve_147 v0 v1 v5) s) (fun z : mR => fr F_kfb_tb_serve_147 A_kfb_tb_serve_147 s.2 z) := RP_whl (I := fun q : Int × mR => fr F_kfb_tb_serve_147 A_kfb_tb_serve_147 s.2 q.2) (fun q hq => RP_w (u_kfb_tb_serve_147 v0 v1 v5 q) (sl_w (fun z hz => (fr_s hz hq rfl rfl)) (fun z hz => (fr_s hz hq rfl rfl)))) fr_0
def F_kfl_tb_serve_133 : List Nat := []
def A_kfl_tb_serve_133 : List Nat := [87, 89]
theorem u_kfl_tb_serve_133 (v0 : Int) (v1 : Int) (v5 : Int) (m : mR) : RP (kfl_tb_serve_133 v0 v1 v5 m) (fun z : Int × mR => fr F_kfl_tb_serve_133 A_kfl_tb_serve_133 m z.2) := by
  unfold kfl_tb_serve_133
  refine RP_bnd (uw_kfb_tb_serve_147 v0 v1 v5 (0, (mO m [] [(89, upI (m.2 89) (65536 * v0 + v5) ((m.2 97) v1))]))) (fun e7 h1 => ?_)
  have h2 : fr F_kfl_tb_serve_133 A_kfl_tb_serve_133 m e7 := (fr_s h1 (fr_m fr_0 rfl rfl) rfl rfl)
  exact RP_some h2
def F_kfl_tb_serve_92 : List Nat := []
def A_kfl_tb_serve_92 : List Nat := [78, 85, 86, 87, 88, 89, 90]
theorem u_kfl_tb_serve_92 (v0 : Int) (v1 : Int) (v4 : Int) (v5 : Int) (v6 : Int) (u0 : Int) (u1 : Int) (m : mR) : RP (kfl_tb_serve_92 v0 v1 v4 v5 v6 u0 u1 m) (fun z : Int × mR => fr F_kfl_tb_serve_92 A_kfl_tb_serve_92 m z.2) := by
  unfold kfl_tb_serve_92
  refine RP_ite (fun h1 => ?_) (fun h1 => ?_)
  · skip
    refine RP_ite (fun h2 => ?_) (fun h2 => ?_)
    · skip
      refine RP_ite (fun h3 => ?_) (fun h3 => ?_)
      · skip
        exact RP_w (u_kfl_tb_serve_133 v0 v1 v5 m) (fun z hz => (fr_s hz fr_0 rfl rfl))
      · skip
        refine RP_bnd (u_kf_tb_append v0 v1 m) (fun y13 h4 => ?_)
        have h5 : fr F_kfl_tb_serve_92 A_kfl_tb_serve_92 m y13.2 := (fr_s h4 fr_0 rfl rfl)
        refine RP_ite (fun h6 => ?_) (fun h6 => ?_)
        · skip
          exact RP_some h5
        · skip
          exact RP_w (u_kfl_tb_serve_133 v0 v1 (cut (((y13.2.2 78) v0) - 1)) y13.2) (fun z hz => (fr_s hz h5 rfl rfl))
    · skip
      refine RP_bnd (u_kf_tb_remove v0 v5 m) (fun y17 h7 => ?_)
      have h8 : fr F_kfl_tb_serve_92 A_kfl_tb_serve_92 m y17.2 := (fr_s h7 fr_0 rfl rfl)
      exact RP_some h8
  · skip
    exact RP_some fr_0
def F_kfl_tb_serve_77 : List Nat := []
def A_kfl_tb_serve_77 : List Nat := [78, 85, 86, 87, 88, 89, 90]
theorem u_kfl_tb_serve_77 (v0 : Int) (v1 : Int) (v4 : Int) (v5 : Int) (u0 : Int) (m : mR) : RP (kfl_tb_serve_77 v0 v1 v4 v5 u0 m) (fun z : Int × mR => fr F_kfl_tb_serve_77 A_kfl_tb_serve_77 m z.2) := by
  unfold kfl_tb_serve_77
  refine RP_ite (fun h1 => ?_) (fun h1 => ?_)
  · skip
    exact RP_w (u_kfl_tb_serve_92 v0 v1 v4 v5 u0 u0 1 m) (fun z hz => (fr_s hz fr_0 rfl rfl))
  · skip
    exact RP_w (u_kfl_tb_serve_92 v0 v1 v4 v5 u0 u0 0 m) (fun z hz => (fr_s hz fr_0 rfl rfl))
def F_kfl_tb_serve_50 : List Nat := []
def A_kfl_tb_serve_50 : List Nat := [78, 85, 86, 87, 88, 89, 90]
theorem u_kfl_tb_serve_50 (v0 : Int) (v1 : Int) (v4 : Int) (m : mR) : RP (kfl_tb_serve_50 v0 v1 v4 m) (fun z : Int × mR => fr F_kfl_tb_serve_50 A_kfl_tb_serve_50 m z.2) := by
  unfold kfl_tb_serve_50
  refine RP_bndT (fun y21 => ?_)
  refine RP_ite (fun h1 => ?_) (fun h1 => ?_)
  · skip
    exact RP_w (u_kfl_tb_serve_77 v0 v1 v4 y21 1 m) (fun z hz => (fr_s hz fr_0 rfl rfl))
  · skip
    exact RP_w (u_kfl_tb_serve_77 v0 v1 v4 y21 0 m) (fun z hz => (fr_s hz fr_0 rfl rfl))
def F_kfl_tb_serve_26 : List Nat := []
def A_kfl_tb_serve_26 : List Nat := [78, 85, 86, 87, 88, 89, 90]
theorem u_kfl_tb_serve_26 (v0 : Int) (v1 : Int) (v3 : Int) (u0 : Int) (m : mR) : RP (kfl_tb_serve_26 v0 v1 v3 u0 m) (fun z : Int × mR => fr F_kfl_tb_serve_26 A_kfl_tb_serve_26 m z.2) := by
  unfold kfl_tb_serve_26
  refine RP_ite (fun h1 => ?_) (fun h1 => ?_)
  · skip
    exact RP_some fr_0
  · skip
    refine RP_ite (fun h2 => ?_) (fun h2 => ?_)
    · skip
      refine RP_bndT (fun y27 => ?_)
      refine RP_ite (fun h3 => ?_) (fun h3 => ?_)
      · skip
        exact RP_some fr_0
      · skip
        exact RP_w (u_kfl_tb_serve_50 v0 v1 u0 m) (fun z hz => (fr_s hz fr_0 rfl rfl))
    · skip
      exact RP_w (u_kfl_tb_serve_50 v0 v1 u0 m) (fun z hz => (fr_s hz fr_0 rfl rfl))
theorem u_kf_tb_serve (v0 : Int) (v1 : Int) (m : mR) : RP (kf_tb_serve v0 v1 m) (fun z : Int × mR => fr kF_tb_serve kA_tb_serve m z.2) := by
  unfold kf_tb_serve
  refine RP_bnd (u_kf_tb_cutKeys_b103_b104 v0 v1 v1 m) (fun y31 h1 => ?_)
  have h2 : fr kF_tb_serve kA_tb_serve m y31.2 := (fr_s h1 fr_0 rfl rfl)
  refine RP_ite (fun h3 => ?_) (fun h3 => ?_)
  · skip
    exact RP_w (u_kfl_tb_serve_26 v0 v1 y31.1 1 y31.2) (fun z hz => (fr_s hz h2 rfl rfl))
  · skip
    exact RP_w (u_kfl_tb_serve_26 v0 v1 y31.1 0 y31.2) (fun z hz => (fr_s hz h2 rfl rfl))
def kF_op_work_b71 : List Nat := []
def kA_op_work_b71 : List Nat := [25, 71, 78, 85, 86, 87, 88, 89, 90, 98, 101, 102, 103, 104, 105]
def F_kfl_op_work_b71_150 : List Nat := []
def A_kfl_op_work_b71_150 : List Nat := []
theorem u_kfl_op_work_b71_150 (v0 : Int) (v2 : Int) (v5 : Int) (m : mR) : RP (kfl_op_work_b71_150 v0 v2 v5 m) (sel (fun z : (Int × mR) => fr F_kfl_op_work_b71_150 A_kfl_op_work_b71_150 m z.2) (fun z : mR => fr F_kfl_op_work_b71_150 A_kfl_op_work_b71_150 m z)) := by
  unfold kfl_op_work_b71_150
  exact RP_some fr_0
def F_kfl_op_work_b71_135 : List Nat := []
def A_kfl_op_work_b71_135 : List Nat := [25, 71, 101, 102, 103, 105]
theorem u_kfl_op_work_b71_135 (v0 : Int) (v2 : Int) (v5 : Int) (m : mR) : RP (kfl_op_work_b71_135 v0 v2 v5 m) (sel (fun z : (Int × mR) => fr F_kfl_op_work_b71_135 A_kfl_op_work_b71_135 m z.2) (fun z : mR => fr F_kfl_op_work_b71_135 A_kfl_op_work_b71_135 m z)) := by
  unfold kfl_op_work_b71_135
  refine RP_bnd (u_kf_op_doStep_b71 v0 v5 m) (fun y2 h1 => ?_)
  have h2 : fr F_kfl_op_work_b71_135 A_kfl_op_work_b71_135 m y2.2 := (fr_s h1 fr_0 rfl rfl)
  exact RP_w (u_kfl_op_work_b71_150 v0 v2 v5 (mO y2.2 [] [(102, upI (y2.2.2 102) (65536 * v0 + v5) y2.1)])) (sl_w (fun z hz => (fr_s hz (fr_m h2 rfl rfl) rfl rfl)) (fun z hz => (fr_s hz (fr_m h2 rfl rfl) rfl rfl)))
def F_kfb_op_work_b71_71 : List Nat := []
def A_kfb_op_work_b71_71 : List Nat := [25, 71, 101, 102, 103, 105]
theorem u_kfb_op_work_b71_71 (v0 : Int) (v2 : Int) (s : Int × mR) : RP (kfb_op_work_b71_71 v0 v2 s) (sel (fun z : (Int × mR) => fr F_kfb_op_work_b71_71 A_kfb_op_work_b71_71 s.2 z.2) (fun z : mR => fr F_kfb_op_work_b71_71 A_kfb_op_work_b71_71 s.2 z)) := by
  unfold kfb_op_work_b71_71
  refine RP_ite (fun h1 => ?_) (fun h1 => ?_)
  · skip
    exact RP_some fr_0
  · skip
    refine RP_ite (fun h2 => ?_) (fun h2 => ?_)
    · skip
      exact RP_some fr_0
    · skip
      refine RP_ite (fun h3 => ?_) (fun h3 => ?_)
      · skip
        refine RP_ite (fun h4 => ?_) (fun h4 => ?_)
        · skip
          exact RP_w (u_kfl_op_work_b71_135 v0 v2 s.1 s.2) (sl_w (fun z hz => (fr_s hz fr_0 rfl rfl)) (fun z hz => (fr_s hz fr_0 rfl rfl)))
        · skip
          refine RP_ite (fun h5 => ?_) (fun h5 => ?_)
          · skip
            exact RP_w (u_kfl_op_work_b71_135 v0 v2 s.1 s.2) (sl_w (fun z hz => (fr_s hz fr_0 rfl rfl)) (fun z hz => (fr_s hz fr_0 rfl rfl)))
          · skip
            exact RP_w (u_kfl_op_work_b71_150 v0 v2 s.1 s.2) (sl_w (fun z hz => (fr_s hz fr_0 rfl rfl)) (fun z hz => (fr_s hz fr_0 rfl rfl)))
      · skip
        exact RP_w (u_kfl_op_work_b71_150 v0 v2 s.1 s.2) (sl_w (fun z hz => (fr_s hz fr_0 rfl rfl)) (fun z hz => (fr_s hz fr_0 rfl rfl)))
theorem uw_kfb_op_work_b71_71 (v0 : Int) (v2 : Int) (s : Int × mR) : RP (whl (kfb_op_work_b71_71 v0 v2) s) (fun z : mR => fr F_kfb_op_work_b71_71 A_kfb_op_work_b71_71 s.2 z) := RP_whl (I := fun q : Int × mR => fr F_kfb_op_work_b71_71 A_kfb_op_work_b71_71 s.2 q.2) (fun q hq => RP_w (u_kfb_op_work_b71_71 v0 v2 q) (sl_w (fun z hz => (fr_s hz hq rfl rfl)) (fun z hz => (fr_s hz hq rfl rfl)))) fr_0
def F_kfl_op_work_b71_43 : List Nat := []
def A_kfl_op_work_b71_43 : List Nat := [78, 85, 86, 87, 88, 89, 90, 98, 103, 104]
theorem u_kfl_op_work_b71_43 (v0 : Int) (u0 : Int) (u1 : Int) (m : mR) : RP (kfl_op_work_b71_43 v0 u0 u1 m) (fun z : Int × mR => fr F_kfl_op_work_b71_43 A_kfl_op_work_b71_43 m z.2) := by
  unfold kfl_op_work_b71_43
  refine RP_ite (fun h1 => ?_) (fun h1 => ?_)
  · skip
    refine RP_bnd (u_kf_tb_serve ((m.2 95) v0) v0 m) (fun y13 h2 => ?_)
    have h3 : fr F_kfl_op_work_b71_43 A_kfl_op_work_b71_43 m y13.2 := (fr_s h2 fr_0 rfl rfl)
    exact RP_some (fr_m h3 rfl rfl)
  · skip
    exact RP_some fr_0
theorem u_kf_op_work_b71 (v0 : Int) (v2 : Int) (m : mR) : RP (kf_op_work_b71 v0 v2 m) (fun z : Int × mR => fr kF_op_work_b71 kA_op_work_b71 m z.2) := by
  unfold kf_op_work_b71
  refine RP_ite (fun h1 => ?_) (fun h1 => ?_)
  · skip
    refine RP_bnd (uw_kfb_op_work_b71_71 v0 v2 (0, m)) (fun e17 h2 => ?_)
    have h3 : fr kF_op_work_b71 kA_op_work_b71 m e17 := (fr_s h2 fr_0 rfl rfl)
    exact RP_some h3
  · skip
    refine RP_bndT (fun y20 => ?_)
    refine RP_ite (fun h4 => ?_) (fun h4 => ?_)
    · skip
      exact RP_w (u_kfl_op_work_b71_43 v0 v2 0 m) (fun z hz => (fr_s hz fr_0 rfl rfl))
    · skip
      exact RP_w (u_kfl_op_work_b71_43 v0 v2 ((m.2 59) y20) m) (fun z hz => (fr_s hz fr_0 rfl rfl))
def kF_Arrays_fill1_b101 : List Nat := []
def kA_Arrays_fill1_b101 : List Nat := [101]
def F_kfb_Arrays_fill1_b101_6 : List Nat := []
def A_kfb_Arrays_fill1_b101_6 : List Nat := [101]
theorem u_kfb_Arrays_fill1_b101_6 (v0 : Int) (v1 : Int) (v4 : Int) (s : Int × mR) : RP (kfb_Arrays_fill1_b101_6 v0 v1 v4 s) (sel (fun z : (Int × mR) => fr F_kfb_Arrays_fill1_b101_6 A_kfb_Arrays_fill1_b101_6 s.2 z.2) (fun z : mR => fr F_kfb_Arrays_fill1_b101_6 A_kfb_Arrays_fill1_b101_6 s.2 z)) := by
  unfold kfb_Arrays_fill1_b101_6
  refine RP_ite (fun h1 => ?_) (fun h1 => ?_)
  · skip
    exact RP_some fr_0
  · skip
    exact RP_some (fr_m fr_0 rfl rfl)
theorem uw_kfb_Arrays_fill1_b101_6 (v0 : Int) (v1 : Int) (v4 : Int) (s : Int × mR) : RP (whl (kfb_Arrays_fill1_b101_6 v0 v1 v4) s) (fun z : mR => fr F_kfb_Arrays_fill1_b101_6 A_kfb_Arrays_fill1_b101_6 s.2 z) := RP_whl (I := fun q : Int × mR => fr F_kfb_Arrays_fill1_b101_6 A_kfb_Arrays_fill1_b101_6 s.2 q.2) (fun q hq => RP_w (u_kfb_Arrays_fill1_b101_6 v0 v1 v4 q) (sl_w (fun z hz => (fr_s hz hq rfl rfl)) (fun z hz => (fr_s hz hq rfl rfl)))) fr_0
theorem u_kf_Arrays_fill1_b101 (v0 : Int) (v1 : Int) (m : mR) : RP (kf_Arrays_fill1_b101 v0 v1 m) (fun z : Int × mR => fr kF_Arrays_fill1_b101 kA_Arrays_fill1_b101 m z.2) := by
  unfold kf_Arrays_fill1_b101
  refine RP_bnd (uw_kfb_Arrays_fill1_b101_6 v0 v1 221 (0, m)) (fun e4 h1 => ?_)
  have h2 : fr kF_Arrays_fill1_b101 kA_Arrays_fill1_b101 m e4 := (fr_s h1 fr_0 rfl rfl)
  exact RP_some h2
def kF_Arrays_fill0_b102 : List Nat := []
def kA_Arrays_fill0_b102 : List Nat := [102]
def F_kfb_Arrays_fill0_b102_5 : List Nat := []
def A_kfb_Arrays_fill0_b102_5 : List Nat := [102]
theorem u_kfb_Arrays_fill0_b102_5 (v0 : Int) (v1 : Int) (v3 : Int) (s : Int × mR) : RP (kfb_Arrays_fill0_b102_5 v0 v1 v3 s) (sel (fun z : (Int × mR) => fr F_kfb_Arrays_fill0_b102_5 A_kfb_Arrays_fill0_b102_5 s.2 z.2) (fun z : mR => fr F_kfb_Arrays_fill0_b102_5 A_kfb_Arrays_fill0_b102_5 s.2 z)) := by
  unfold kfb_Arrays_fill0_b102_5
  refine RP_ite (fun h1 => ?_) (fun h1 => ?_)
  · skip
    exact RP_some fr_0
  · skip
    exact RP_some (fr_m fr_0 rfl rfl)
theorem uw_kfb_Arrays_fill0_b102_5 (v0 : Int) (v1 : Int) (v3 : Int) (s : Int × mR) : RP (whl (kfb_Arrays_fill0_b102_5 v0 v1 v3) s) (fun z : mR => fr F_kfb_Arrays_fill0_b102_5 A_kfb_Arrays_fill0_b102_5 s.2 z) := RP_whl (I := fun q : Int × mR => fr F_kfb_Arrays_fill0_b102_5 A_kfb_Arrays_fill0_b102_5 s.2 q.2) (fun q hq => RP_w (u_kfb_Arrays_fill0_b102_5 v0 v1 v3 q) (sl_w (fun z hz => (fr_s hz hq rfl rfl)) (fun z hz => (fr_s hz hq rfl rfl)))) fr_0
theorem u_kf_Arrays_fill0_b102 (v0 : Int) (v1 : Int) (m : mR) : RP (kf_Arrays_fill0_b102 v0 v1 m) (fun z : Int × mR => fr kF_Arrays_fill0_b102 kA_Arrays_fill0_b102 m z.2) := by
  unfold kf_Arrays_fill0_b102
  refine RP_bnd (uw_kfb_Arrays_fill0_b102_5 v0 v1 48 (0, m)) (fun e4 h1 => ?_)
  have h2 : fr kF_Arrays_fill0_b102 kA_Arrays_fill0_b102 m e4 := (fr_s h1 fr_0 rfl rfl)
  exact RP_some h2
def kF_op_extract : List Nat := []
def kA_op_extract : List Nat := [94, 101]
def F_kfl_op_extract_152 : List Nat := []
def A_kfl_op_extract_152 : List Nat := [94]
theorem u_kfl_op_extract_152 (v0 : Int) (v4 : Int) (m : mR) : RP (kfl_op_extract_152 v0 v4 m) (fun z : Int × mR => fr F_kfl_op_extract_152 A_kfl_op_extract_152 m z.2) := by
  unfold kfl_op_extract_152
  exact RP_some (fr_m fr_0 rfl rfl)
def F_kfl_op_extract_133 : List Nat := []
def A_kfl_op_extract_133 : List Nat := [101]
theorem u_kfl_op_extract_133 (v0 : Int) (v2 : Int) (v3 : Int) (v4 : Int) (v5 : Int) (v6 : Int) (v8 : Int) (m : mR) : RP (kfl_op_extract_133 v0 v2 v3 v4 v5 v6 v8 m) (sel (fun z : (Int × Int × mR) => fr F_kfl_op_extract_133 A_kfl_op_extract_133 m z.2.2) (fun z : mR => fr F_kfl_op_extract_133 A_kfl_op_extract_133 m z)) := by
  unfold kfl_op_extract_133
  exact RP_some (fr_m fr_0 rfl rfl)
def F_kfb_op_extract_66 : List Nat := []
def A_kfb_op_extract_66 : List Nat := [101]
theorem u_kfb_op_extract_66 (v0 : Int) (v2 : Int) (v3 : Int) (v4 : Int) (s : Int × Int × mR) : RP (kfb_op_extract_66 v0 v2 v3 v4 s) (sel (fun z : (Int × Int × mR) => fr F_kfb_op_extract_66 A_kfb_op_extract_66 s.2.2 z.2.2) (fun z : mR => fr F_kfb_op_extract_66 A_kfb_op_extract_66 s.2.2 z)) := by
  unfold kfb_op_extract_66
  refine RP_ite (fun h1 => ?_) (fun h1 => ?_)
  · skip
    exact RP_some fr_0
  · skip
    refine RP_bndT (fun y9 => ?_)
    refine RP_bndT (fun e12 => ?_)
    exact RP_w (u_kfl_op_extract_133 v0 v2 v3 v4 e12.1 s.2.1 e12.2 s.2.2) (sl_w (fun z hz => (fr_s hz fr_0 rfl rfl)) (fun z hz => (fr_s hz fr_0 rfl rfl)))
theorem uw_kfb_op_extract_66 (v0 : Int) (v2 : Int) (v3 : Int) (v4 : Int) (s : Int × Int × mR) : RP (whl (kfb_op_extract_66 v0 v2 v3 v4) s) (fun z : mR => fr F_kfb_op_extract_66 A_kfb_op_extract_66 s.2.2 z) := RP_whl (I := fun q : Int × Int × mR => fr F_kfb_op_extract_66 A_kfb_op_extract_66 s.2.2 q.2.2) (fun q hq => RP_w (u_kfb_op_extract_66 v0 v2 v3 v4 q) (sl_w (fun z hz => (fr_s hz hq rfl rfl)) (fun z hz => (fr_s hz hq rfl rfl)))) fr_0
theorem u_kf_op_extract (v0 : Int) (v2 : Int) (m : mR) : RP (kf_op_extract v0 v2 m) (fun z : Int × mR => fr kF_op_extract kA_op_extract m z.2) := by
  unfold kf_op_extract
  refine RP_bndT (fun y16 => ?_)
  refine RP_ite (fun h1 => ?_) (fun h1 => ?_)
  · skip
    refine RP_ite (fun h2 => ?_) (fun h2 => ?_)
    · skip
      refine RP_bnd (uw_kfb_op_extract_66 v0 v2 (cut (v2 * 17)) (y16.tdiv 8) (cut (((m.2 94) v0) * 8), 0, (mO m [] [(101, upI (m.2 101) (65536 * v0 + (cut (v2 * 17))) 1)]))) (fun e21 h3 => ?_)
      have h4 : fr kF_op_extract kA_op_extract m e21 := (fr_s h3 (fr_m fr_0 rfl rfl) rfl rfl)
      exact RP_w (u_kfl_op_extract_152 v0 (y16.tdiv 8) e21) (fun z hz => (fr_s hz h4 rfl rfl))
    · skip
      exact RP_some fr_0
  · skip
    exact RP_some fr_0
def kF_op_pass : List Nat := []
def kA_op_pass : List Nat := [25, 94, 101]
def F_kfl_op_pass_89 : List Nat := []
def A_kfl_op_pass_89 : List Nat := []
theorem u_kfl_op_pass_89 (v2 : Int) (u0 : Int) (m : mR) : RP (kfl_op_pass_89 v2 u0 m) (fun z : Int × mR => fr F_kfl_op_pass_89 A_kfl_op_pass_89 m z.2) := by
  unfold kfl_op_pass_89
  refine RP_bndT (fun y3 => ?_)
  exact RP_some fr_0
def F_kfl_op_pass_48 : List Nat := []
def A_kfl_op_pass_48 : List Nat := [25]
theorem u_kfl_op_pass_48 (v0 : Int) (v2 : Int) (m : mR) : RP (kfl_op_pass_48 v0 v2 m) (fun z : Int × mR => fr F_kfl_op_pass_48 A_kfl_op_pass_48 m z.2) := by
  unfold kfl_op_pass_48
  refine RP_ite (fun h1 => ?_) (fun h1 => ?_)
  · skip
    exact RP_w (u_kfl_op_pass_89 v2 0 m) (fun z hz => (fr_s hz fr_0 rfl rfl))
  · skip
    refine RP_bnd (u_kf_nd_valueOf_b101_b105 ((m.2 28) v2) ((m.2 29) v2) v0 v0 m) (fun y7 h2 => ?_)
    have h3 : fr F_kfl_op_pass_48 A_kfl_op_pass_48 m y7.2 := (fr_s h2 fr_0 rfl rfl)
    exact RP_w (u_kfl_op_pass_89 v2 y7.1 y7.2) (fun z hz => (fr_s hz h3 rfl rfl))
def F_kfb_op_pass_8 : List Nat := []
def A_kfb_op_pass_8 : List Nat := [94, 101]
theorem u_kfb_op_pass_8 (v0 : Int) (v2 : Int) (s : Int × mR) : RP (kfb_op_pass_8 v0 v2 s) (sel (fun z : (Int × mR) => fr F_kfb_op_pass_8 A_kfb_op_pass_8 s.2 z.2) (sel (fun z : (mR) => fr F_kfb_op_pass_8 A_kfb_op_pass_8 s.2 z) (fun z : mR => fr F_kfb_op_pass_8 A_kfb_op_pass_8 s.2 z))) := by
  unfold kfb_op_pass_8
  refine RP_ite (fun h1 => ?_) (fun h1 => ?_)
  · skip
    exact RP_some fr_0
  · skip
    refine RP_bnd (u_kf_op_extract v0 ((s.2.2 27) (cut ((cut (v2 * 6)) + s.1))) s.2) (fun y13 h2 => ?_)
    have h3 : fr F_kfb_op_pass_8 A_kfb_op_pass_8 s.2 y13.2 := (fr_s h2 fr_0 rfl rfl)
    refine RP_ite (fun h4 => ?_) (fun h4 => ?_)
    · skip
      exact RP_some h3
    · skip
      exact RP_some h3
theorem uw_kfb_op_pass_8 (v0 : Int) (v2 : Int) (s : Int × mR) : RP (whl (kfb_op_pass_8 v0 v2) s) (sel (fun z : ((mR)) => fr F_kfb_op_pass_8 A_kfb_op_pass_8 s.2 z) (fun z : mR => fr F_kfb_op_pass_8 A_kfb_op_pass_8 s.2 z)) := RP_whl (I := fun q : Int × mR => fr F_kfb_op_pass_8 A_kfb_op_pass_8 s.2 q.2) (fun q hq => RP_w (u_kfb_op_pass_8 v0 v2 q) (sl_w (fun z hz => (fr_s hz hq rfl rfl)) (sl_w (fun z hz => (fr_s hz hq rfl rfl)) (fun z hz => (fr_s hz hq rfl rfl))))) fr_0
theorem u_kf_op_pass (v0 : Int) (v2 : Int) (m : mR) : RP (kf_op_pass v0 v2 m) (fun z : Int × mR => fr kF_op_pass kA_op_pass m z.2) := by
  unfold kf_op_pass
  refine RP_bnd (uw_kfb_op_pass_8 v0 v2 (0, m)) (RP_sl (fun e17 h1 => ?_) (fun e20 h3 => ?_))
  · skip
    have h2 : fr kF_op_pass kA_op_pass m e17 := (fr_s h1 fr_0 rfl rfl)
    exact RP_some h2
  · skip
    have h4 : fr kF_op_pass kA_op_pass m e20 := (fr_s h3 fr_0 rfl rfl)
    exact RP_w (u_kfl_op_pass_48 v0 v2 e20) (fun z hz => (fr_s hz h4 rfl rfl))
def kF_op_enter : List Nat := []
def kA_op_enter : List Nat := [25, 94, 98, 101, 102]
def F_kfl_op_enter_121 : List Nat := []
def A_kfl_op_enter_121 : List Nat := [98]
theorem u_kfl_op_enter_121 (u0 : Int) (u1 : Int) (m : mR) : RP (kfl_op_enter_121 u0 u1 m) (fun z : Int × mR => fr F_kfl_op_enter_121 A_kfl_op_enter_121 m z.2) := by
  unfold kfl_op_enter_121
  exact RP_some (fr_m fr_0 rfl rfl)
def F_kfl_op_enter_109 : List Nat := []
def A_kfl_op_enter_109 : List Nat := [98]
theorem u_kfl_op_enter_109 (v0 : Int) (v2 : Int) (m : mR) : RP (kfl_op_enter_109 v0 v2 m) (fun z : Int × mR => fr F_kfl_op_enter_109 A_kfl_op_enter_109 m z.2) := by
  unfold kfl_op_enter_109
  refine RP_ite (fun h1 => ?_) (fun h1 => ?_)
  · skip
    exact RP_w (u_kfl_op_enter_121 v0 0 m) (fun z hz => (fr_s hz fr_0 rfl rfl))
  · skip
    exact RP_w (u_kfl_op_enter_121 v0 2 m) (fun z hz => (fr_s hz fr_0 rfl rfl))
def F_kfb_op_enter_83 : List Nat := []
def A_kfb_op_enter_83 : List Nat := [25, 94, 101]
theorem u_kfb_op_enter_83 (v0 : Int) (s : Int × Int × mR) : RP (kfb_op_enter_83 v0 s) (sel (fun z : (Int × Int × mR) => fr F_kfb_op_enter_83 A_kfb_op_enter_83 s.2.2 z.2.2) (fun z : Int × mR => fr F_kfb_op_enter_83 A_kfb_op_enter_83 s.2.2 z.2)) := by
  unfold kfb_op_enter_83
  refine RP_ite (fun h1 => ?_) (fun h1 => ?_)
  · skip
    exact RP_some fr_0
  · skip
    refine RP_ite (fun h2 => ?_) (fun h2 => ?_)
    · skip
      exact RP_some fr_0
    · skip
      refine RP_bnd (u_kf_op_pass v0 s.1 s.2.2) (fun y8 h3 => ?_)
      have h4 : fr F_kfb_op_enter_83 A_kfb_op_enter_83 s.2.2 y8.2 := (fr_s h3 fr_0 rfl rfl)
      exact RP_some h4
theorem uw_kfb_op_enter_83 (v0 : Int) (s : Int × Int × mR) : RP (whl (kfb_op_enter_83 v0) s) (fun z : Int × mR => fr F_kfb_op_enter_83 A_kfb_op_enter_83 s.2.2 z.2) := RP_whl (I := fun q : Int × Int × mR => fr F_kfb_op_enter_83 A_kfb_op_enter_83 s.2.2 q.2.2) (fun q hq => RP_w (u_kfb_op_enter_83 v0 q) (sl_w (fun z hz => (fr_s hz hq rfl rfl)) (fun z hz => (fr_s hz hq rfl rfl)))) fr_0
def F_kfl_op_enter_80 : List Nat := []
def A_kfl_op_enter_80 : List Nat := [25, 94, 98, 101]
theorem u_kfl_op_enter_80 (v0 : Int) (u0 : Int) (m : mR) : RP (kfl_op_enter_80 v0 u0 m) (fun z : Int × mR => fr F_kfl_op_enter_80 A_kfl_op_enter_80 m z.2) := by
  unfold kfl_op_enter_80
  refine RP_bnd (uw_kfb_op_enter_83 v0 (u0, 0, m)) (fun e11 h1 => ?_)
  have h2 : fr F_kfl_op_enter_80 A_kfl_op_enter_80 m e11.2 := (fr_s h1 fr_0 rfl rfl)
  exact RP_w (u_kfl_op_enter_109 v0 e11.1 e11.2) (fun z hz => (fr_s hz h2 rfl rfl))
theorem u_kf_op_enter (v0 : Int) (m : mR) : RP (kf_op_enter v0 m) (fun z : Int × mR => fr kF_op_enter kA_op_enter m z.2) := by
  unfold kf_op_enter
  refine RP_ite (fun h1 => ?_) (fun h1 => ?_)
  · skip
    refine RP_bnd (u_kf_Arrays_fill1_b101 v0 0 (mO m [] [(98, upI (m.2 98) v0 0)])) (fun y16 h2 => ?_)
    have h3 : fr kF_op_enter kA_op_enter m y16.2 := (fr_s h2 (fr_m fr_0 rfl rfl) rfl rfl)
    refine RP_bnd (u_kf_Arrays_fill0_b102 v0 (-1) y16.2) (fun y19 h4 => ?_)
    have h5 : fr kF_op_enter kA_op_enter m y19.2 := (fr_s h4 h3 rfl rfl)
    refine RP_ite (fun h6 => ?_) (fun h6 => ?_)
    · skip
      exact RP_w (u_kfl_op_enter_80 v0 16 (mO y19.2 [] [(94, upI (y19.2.2 94) v0 0), (101, upI (upI (y19.2.2 101) (65536 * v0 + 204) (and64 ((y19.2.2 93) v0) 65535)) (65536 * v0 + 205) ((y19.2.2 92) v0))])) (fun z hz => (fr_s hz (fr_m h5 rfl rfl) rfl rfl))
    · skip
      exact RP_w (u_kfl_op_enter_80 v0 0 (mO y19.2 [] [(94, upI (y19.2.2 94) v0 0), (101, upI (upI (y19.2.2 101) (65536 * v0 + 204) (and64 ((y19.2.2 93) v0) 65535)) (65536 * v0 + 205) ((y19.2.2 92) v0))])) (fun z hz => (fr_s hz (fr_m h5 rfl rfl) rfl rfl))
  · skip
    exact RP_some (fr_m fr_0 rfl rfl)
def kF_op_write : List Nat := []
def kA_op_write : List Nat := [100]
def F_kfl_op_write_102 : List Nat := []
def A_kfl_op_write_102 : List Nat := []
theorem u_kfl_op_write_102 (v0 : Int) (v2 : Int) (v4 : Int) (v5 : Int) (v6 : Int) (m : mR) : RP (kfl_op_write_102 v0 v2 v4 v5 v6 m) (sel (fun z : (Int × Int × mR) => fr F_kfl_op_write_102 A_kfl_op_write_102 m z.2.2) (fun z : Int × mR => fr F_kfl_op_write_102 A_kfl_op_write_102 m z.2)) := by
  unfold kfl_op_write_102
  exact RP_some fr_0
def F_kfb_op_write_46 : List Nat := []
def A_kfb_op_write_46 : List Nat := [100]
theorem u_kfb_op_write_46 (v0 : Int) (v2 : Int) (v4 : Int) (v6 : Int) (s : Int × Int × mR) : RP (kfb_op_write_46 v0 v2 v4 v6 s) (sel (fun z : (Int × Int × mR) => fr F_kfb_op_write_46 A_kfb_op_write_46 s.2.2 z.2.2) (fun z : Int × mR => fr F_kfb_op_write_46 A_kfb_op_write_46 s.2.2 z.2)) := by
  unfold kfb_op_write_46
  refine RP_ite (fun h1 => ?_) (fun h1 => ?_)
  · skip
    exact RP_some fr_0
  · skip
    exact RP_some (fr_m fr_0 rfl rfl)
theorem uw_kfb_op_write_46 (v0 : Int) (v2 : Int) (v4 : Int) (v6 : Int) (s : Int × Int × mR) : RP (whl (kfb_op_write_46 v0 v2 v4 v6) s) (fun z : Int × mR => fr F_kfb_op_write_46 A_kfb_op_write_46 s.2.2 z.2) := RP_whl (I := fun q : Int × Int × mR => fr F_kfb_op_write_46 A_kfb_op_write_46 s.2.2 q.2.2) (fun q hq => RP_w (u_kfb_op_write_46 v0 v2 v4 v6 q) (sl_w (fun z hz => (fr_s hz hq rfl rfl)) (fun z hz => (fr_s hz hq rfl rfl)))) fr_0
def F_kfb_op_write_12 : List Nat := []
def A_kfb_op_write_12 : List Nat := [100]
theorem u_kfb_op_write_12 (v0 : Int) (v2 : Int) (v4 : Int) (s : Int × Int × mR) : RP (kfb_op_write_12 v0 v2 v4 s) (sel (fun z : (Int × Int × mR) => fr F_kfb_op_write_12 A_kfb_op_write_12 s.2.2 z.2.2) (fun z : Int × mR => fr F_kfb_op_write_12 A_kfb_op_write_12 s.2.2 z.2)) := by
  unfold kfb_op_write_12
  refine RP_ite (fun h1 => ?_) (fun h1 => ?_)
  · skip
    exact RP_some fr_0
  · skip
    refine RP_ite (fun h2 => ?_) (fun h2 => ?_)
    · skip
      exact RP_some fr_0
    · skip
      refine RP_bndT (fun y12 => ?_)
      refine RP_bnd (uw_kfb_op_write_46 v0 v2 v4 s.2.1 (s.1, cut (y12 - 1), s.2.2)) (fun e15 h3 => ?_)
      have h4 : fr F_kfb_op_write_12 A_kfb_op_write_12 s.2.2 e15.2 := (fr_s h3 fr_0 rfl rfl)
      exact RP_w (u_kfl_op_write_102 v0 v2 v4 e15.1 s.2.1 e15.2) (sl_w (fun z hz => (fr_s hz h4 rfl rfl)) (fun z hz => (fr_s hz h4 rfl rfl)))
theorem uw_kfb_op_write_12 (v0 : Int) (v2 : Int) (v4 : Int) (s : Int × Int × mR) : RP (whl (kfb_op_write_12 v0 v2 v4) s) (fun z : Int × mR => fr F_kfb_op_write_12 A_kfb_op_write_12 s.2.2 z.2) := RP_whl (I := fun q : Int × Int × mR => fr F_kfb_op_write_12 A_kfb_op_write_12 s.2.2 q.2.2) (fun q hq => RP_w (u_kfb_op_write_12 v0 v2 v4 q) (sl_w (fun z hz => (fr_s hz hq rfl rfl)) (fun z hz => (fr_s hz hq rfl rfl)))) fr_0
theorem u_kf_op_write (v0 : Int) (v2 : Int) (v3 : Int) (m : mR) : RP (kf_op_write v0 v2 v3 m) (fun z : Int × mR => fr kF_op_write kA_op_write m z.2) := by
  unfold kf_op_write
  refine RP_bnd (uw_kfb_op_write_12 v0 v2 (cut (v2 * 17)) (v3, 0, m)) (fun e19 h1 => ?_)
  have h2 : fr kF_op_write kA_op_write m e19.2 := (fr_s h1 fr_0 rfl rfl)
  exact RP_some h2
def kF_op_leave : List Nat := []
def kA_op_leave : List Nat := [92, 98, 99, 100]
def F_kfb_op_leave_191 : List Nat := []
def A_kfb_op_leave_191 : List Nat := [100]
theorem u_kfb_op_leave_191 (v0 : Int) (s : Int × Int × mR) : RP (kfb_op_leave_191 v0 s) (sel (fun z : (Int × Int × mR) => fr F_kfb_op_leave_191 A_kfb_op_leave_191 s.2.2 z.2.2) (fun z : mR => fr F_kfb_op_leave_191 A_kfb_op_leave_191 s.2.2 z)) := by
  unfold kfb_op_leave_191
  refine RP_ite (fun h1 => ?_) (fun h1 => ?_)
  · skip
    exact RP_some fr_0
  · skip
    refine RP_bnd (u_kf_op_write v0 ((s.2.2.2 17) s.2.1) s.1 s.2.2) (fun y6 h2 => ?_)
    have h3 : fr F_kfb_op_leave_191 A_kfb_op_leave_191 s.2.2 y6.2 := (fr_s h2 fr_0 rfl rfl)
    exact RP_some h3
theorem uw_kfb_op_leave_191 (v0 : Int) (s : Int × Int × mR) : RP (whl (kfb_op_leave_191 v0) s) (fun z : mR => fr F_kfb_op_leave_191 A_kfb_op_leave_191 s.2.2 z) := RP_whl (I := fun q : Int × Int × mR => fr F_kfb_op_leave_191 A_kfb_op_leave_191 s.2.2 q.2.2) (fun q hq => RP_w (u_kfb_op_leave_191 v0 q) (sl_w (fun z hz => (fr_s hz hq rfl rfl)) (fun z hz => (fr_s hz hq rfl rfl)))) fr_0
def F_kfl_op_leave_185 : List Nat := []
def A_kfl_op_leave_185 : List Nat := [100]
theorem u_kfl_op_leave_185 (v0 : Int) (m : mR) : RP (kfl_op_leave_185 v0 m) (fun z : Int × mR => fr F_kfl_op_leave_185 A_kfl_op_leave_185 m z.2) := by
  unfold kfl_op_leave_185
  refine RP_bnd (uw_kfb_op_leave_191 v0 (0, 0, m)) (fun e9 h1 => ?_)
  have h2 : fr F_kfl_op_leave_185 A_kfl_op_leave_185 m e9 := (fr_s h1 fr_0 rfl rfl)
  exact RP_some h2
def F_kfb_op_leave_165 : List Nat := []
def A_kfb_op_leave_165 : List Nat := [100]
theorem u_kfb_op_leave_165 (v0 : Int) (v3 : Int) (s : Int × mR) : RP (kfb_op_leave_165 v0 v3 s) (sel (fun z : (Int × mR) => fr F_kfb_op_leave_165 A_kfb_op_leave_165 s.2 z.2) (fun z : mR => fr F_kfb_op_leave_165 A_kfb_op_leave_165 s.2 z)) := by
  unfold kfb_op_leave_165
  refine RP_ite (fun h1 => ?_) (fun h1 => ?_)
  · skip
    exact RP_some fr_0
  · skip
    exact RP_some (fr_m fr_0 rfl rfl)
theorem uw_kfb_op_leave_165 (v0 : Int) (v3 : Int) (s : Int × mR) : RP (whl (kfb_op_leave_165 v0 v3) s) (fun z : mR => fr F_kfb_op_leave_165 A_kfb_op_leave_165 s.2 z) := RP_whl (I := fun q : Int × mR => fr F_kfb_op_leave_165 A_kfb_op_leave_165 s.2 q.2) (fun q hq => RP_w (u_kfb_op_leave_165 v0 v3 q) (sl_w (fun z hz => (fr_s hz hq rfl rfl)) (fun z hz => (fr_s hz hq rfl rfl)))) fr_0
def F_kfl_op_leave_122 : List Nat := []
def A_kfl_op_leave_122 : List Nat := [92, 100]
theorem u_kfl_op_leave_122 (v0 : Int) (v3 : Int) (m : mR) : RP (kfl_op_leave_122 v0 v3 m) (fun z : Int × mR => fr F_kfl_op_leave_122 A_kfl_op_leave_122 m z.2) := by
  unfold kfl_op_leave_122
  refine RP_bnd (uw_kfb_op_leave_165 v0 v3 (0, (mO m [] [(92, upI (m.2 92) v0 (cut ((cut (v3 + ((m.2 92) v0))) - ((m.2 94) v0)))), (100, cpI (m.2 100) (m.2 100) (65536 * v0 + ((m.2 94) v0)) (65536 * v0 + v3) (cut (((m.2 92) v0) - ((m.2 94) v0))))]))) (fun e14 h1 => ?_)
  have h2 : fr F_kfl_op_leave_122 A_kfl_op_leave_122 m e14 := (fr_s h1 (fr_m fr_0 rfl rfl) rfl rfl)
  exact RP_w (u_kfl_op_leave_185 v0 e14) (fun z hz => (fr_s hz h2 rfl rfl))
def F_kfl_op_leave_37 : List Nat := []
def A_kfl_op_leave_37 : List Nat := [92, 100]
theorem u_kfl_op_leave_37 (v0 : Int) (m : mR) : RP (kfl_op_leave_37 v0 m) (fun z : Int × mR => fr F_kfl_op_leave_37 A_kfl_op_leave_37 m z.2) := by
  unfold kfl_op_leave_37
  refine RP_bndT (fun y24 => ?_)
  refine RP_ite (fun h1 => ?_) (fun h1 => ?_)
  · skip
    exact RP_some fr_0
  · skip
    refine RP_bndT (fun e28 => ?_)
    exact RP_w (u_kfl_op_leave_122 v0 e28 m) (fun z hz => (fr_s hz fr_0 rfl rfl))
theorem u_kf_op_leave (v0 : Int) (v2 : Int) (m : mR) : RP (kf_op_leave v0 v2 m) (fun z : Int × mR => fr kF_op_leave kA_op_leave m z.2) := by
  unfold kf_op_leave
  refine RP_ite (fun h1 => ?_) (fun h1 => ?_)
  · skip
    refine RP_ite (fun h2 => ?_) (fun h2 => ?_)
    · skip
      refine RP_ite (fun h3 => ?_) (fun h3 => ?_)
      · skip
        exact RP_w (u_kfl_op_leave_37 v0 (mO m [] [(99, upI (m.2 99) v0 v2)])) (fun z hz => (fr_s hz (fr_m fr_0 rfl rfl) rfl rfl))
      · skip
        exact RP_w (u_kfl_op_leave_37 v0 (mO m [] [(98, upI (m.2 98) v0 1), (99, upI (m.2 99) v0 v2)])) (fun z hz => (fr_s hz (fr_m fr_0 rfl rfl) rfl rfl))
    · skip
      exact RP_w (u_kfl_op_leave_37 v0 (mO m [] [(99, upI (m.2 99) v0 v2)])) (fun z hz => (fr_s hz (fr_m fr_0 rfl rfl) rfl rfl))
  · skip
    exact RP_w (u_kfl_op_leave_37 v0 (mO m [] [(99, upI (m.2 99) v0 v2)])) (fun z hz => (fr_s hz (fr_m fr_0 rfl rfl) rfl rfl))
def kF_pi_cycle : List Nat := [233, 234, 235]
def kA_pi_cycle : List Nat := [25, 71, 78, 85, 86, 87, 88, 89, 90, 92, 94, 98, 99, 100, 101, 102, 103, 104, 105, 106]
def F_kfl_pi_cycle_174 : List Nat := [235]
def A_kfl_pi_cycle_174 : List Nat := []
theorem u_kfl_pi_cycle_174 (m : mR) : RP (kfl_pi_cycle_174 m) (fun z : Int × mR => fr F_kfl_pi_cycle_174 A_kfl_pi_cycle_174 m z.2) := by
  unfold kfl_pi_cycle_174
  exact RP_some (fr_m fr_0 rfl rfl)
def F_kfl_pi_cycle_168 : List Nat := []
def A_kfl_pi_cycle_168 : List Nat := []
theorem u_kfl_pi_cycle_168 (v1 : Int) (v4 : Int) (m : mR) : RP (kfl_pi_cycle_168 v1 v4 m) (sel (fun z : (Int × mR) => fr F_kfl_pi_cycle_168 A_kfl_pi_cycle_168 m z.2) (fun z : mR => fr F_kfl_pi_cycle_168 A_kfl_pi_cycle_168 m z)) := by
  unfold kfl_pi_cycle_168
  exact RP_some fr_0
def F_kfb_pi_cycle_133 : List Nat := []
def A_kfb_pi_cycle_133 : List Nat := [25, 71, 78, 85, 86, 87, 88, 89, 90, 98, 101, 102, 103, 104, 105]
theorem u_kfb_pi_cycle_133 (v1 : Int) (s : Int × mR) : RP (kfb_pi_cycle_133 v1 s) (sel (fun z : (Int × mR) => fr F_kfb_pi_cycle_133 A_kfb_pi_cycle_133 s.2 z.2) (fun z : mR => fr F_kfb_pi_cycle_133 A_kfb_pi_cycle_133 s.2 z)) := by
  unfold kfb_pi_cycle_133
  refine RP_ite (fun h1 => ?_) (fun h1 => ?_)
  · skip
    exact RP_some fr_0
  · skip
    refine RP_ite (fun h2 => ?_) (fun h2 => ?_)
    · skip
      exact RP_w (u_kfl_pi_cycle_168 v1 s.1 s.2) (sl_w (fun z hz => (fr_s hz fr_0 rfl rfl)) (fun z hz => (fr_s hz fr_0 rfl rfl)))
    · skip
      refine RP_bnd (u_kf_op_work_b71 (kopi (s.2.2 106) (s.2.2 107) s.1) s.1 s.2) (fun y7 h3 => ?_)
      have h4 : fr F_kfb_pi_cycle_133 A_kfb_pi_cycle_133 s.2 y7.2 := (fr_s h3 fr_0 rfl rfl)
      exact RP_w (u_kfl_pi_cycle_168 v1 s.1 y7.2) (sl_w (fun z hz => (fr_s hz h4 rfl rfl)) (fun z hz => (fr_s hz h4 rfl rfl)))
theorem uw_kfb_pi_cycle_133 (v1 : Int) (s : Int × mR) : RP (whl (kfb_pi_cycle_133 v1) s) (fun z : mR => fr F_kfb_pi_cycle_133 A_kfb_pi_cycle_133 s.2 z) := RP_whl (I := fun q : Int × mR => fr F_kfb_pi_cycle_133 A_kfb_pi_cycle_133 s.2 q.2) (fun q hq => RP_w (u_kfb_pi_cycle_133 v1 q) (sl_w (fun z hz => (fr_s hz hq rfl rfl)) (fun z hz => (fr_s hz hq rfl rfl)))) fr_0
def F_kfl_pi_cycle_130 : List Nat := [235]
def A_kfl_pi_cycle_130 : List Nat := [25, 71, 78, 85, 86, 87, 88, 89, 90, 98, 101, 102, 103, 104, 105]
theorem u_kfl_pi_cycle_130 (v1 : Int) (m : mR) : RP (kfl_pi_cycle_130 v1 m) (fun z : Int × mR => fr F_kfl_pi_cycle_130 A_kfl_pi_cycle_130 m z.2) := by
  unfold kfl_pi_cycle_130
  refine RP_bnd (uw_kfb_pi_cycle_133 v1 (0, m)) (fun e10 h1 => ?_)
  have h2 : fr F_kfl_pi_cycle_130 A_kfl_pi_cycle_130 m e10 := (fr_s h1 fr_0 rfl rfl)
  exact RP_w (u_kfl_pi_cycle_174 e10) (fun z hz => (fr_s hz h2 rfl rfl))
def F_kfl_pi_cycle_100 : List Nat := [233, 235]
def A_kfl_pi_cycle_100 : List Nat := [25, 71, 78, 85, 86, 87, 88, 89, 90, 94, 98, 101, 102, 103, 104, 105, 106]
theorem u_kfl_pi_cycle_100 (v1 : Int) (u0 : Int) (m : mR) : RP (kfl_pi_cycle_100 v1 u0 m) (fun z : Int × mR => fr F_kfl_pi_cycle_100 A_kfl_pi_cycle_100 m z.2) := by
  unfold kfl_pi_cycle_100
  refine RP_ite (fun h1 => ?_) (fun h1 => ?_)
  · skip
    exact RP_w (u_kfl_pi_cycle_130 v1 (mO m [] [(106, upI (m.2 106) 0 u0)])) (fun z hz => (fr_s hz (fr_m fr_0 rfl rfl) rfl rfl))
  · skip
    refine RP_bnd (u_kf_op_enter u0 (mO m [] [(106, upI (m.2 106) 0 u0)])) (fun y14 h2 => ?_)
    have h3 : fr F_kfl_pi_cycle_100 A_kfl_pi_cycle_100 m y14.2 := (fr_s h2 (fr_m fr_0 rfl rfl) rfl rfl)
    exact RP_w (u_kfl_pi_cycle_130 v1 (mO y14.2 [(233, cut ((y14.2.1 233) + 1))] [])) (fun z hz => (fr_s hz (fr_m h3 rfl rfl) rfl rfl))
def F_kfl_pi_cycle_72 : List Nat := [233, 235]
def A_kfl_pi_cycle_72 : List Nat := [25, 71, 78, 85, 86, 87, 88, 89, 90, 94, 98, 101, 102, 103, 104, 105, 106]
theorem u_kfl_pi_cycle_72 (v1 : Int) (m : mR) : RP (kfl_pi_cycle_72 v1 m) (fun z : Int × mR => fr F_kfl_pi_cycle_72 A_kfl_pi_cycle_72 m z.2) := by
  unfold kfl_pi_cycle_72
  refine RP_ite (fun h1 => ?_) (fun h1 => ?_)
  · skip
    exact RP_w (u_kfl_pi_cycle_100 v1 (-1) m) (fun z hz => (fr_s hz fr_0 rfl rfl))
  · skip
    exact RP_w (u_kfl_pi_cycle_100 v1 (kopn (m.2 107) ((m.1 233).tmod 128)) m) (fun z hz => (fr_s hz fr_0 rfl rfl))
def F_kfb_pi_cycle_48 : List Nat := []
def A_kfb_pi_cycle_48 : List Nat := [106]
theorem u_kfb_pi_cycle_48 (v1 : Int) (s : Int × mR) : RP (kfb_pi_cycle_48 v1 s) (sel (fun z : (Int × mR) => fr F_kfb_pi_cycle_48 A_kfb_pi_cycle_48 s.2 z.2) (fun z : mR => fr F_kfb_pi_cycle_48 A_kfb_pi_cycle_48 s.2 z)) := by
  unfold kfb_pi_cycle_48
  refine RP_ite (fun h1 => ?_) (fun h1 => ?_)
  · skip
    exact RP_some fr_0
  · skip
    exact RP_some (fr_m fr_0 rfl rfl)
theorem uw_kfb_pi_cycle_48 (v1 : Int) (s : Int × mR) : RP (whl (kfb_pi_cycle_48 v1) s) (fun z : mR => fr F_kfb_pi_cycle_48 A_kfb_pi_cycle_48 s.2 z) := RP_whl (I := fun q : Int × mR => fr F_kfb_pi_cycle_48 A_kfb_pi_cycle_48 s.2 q.2) (fun q hq => RP_w (u_kfb_pi_cycle_48 v1 q) (sl_w (fun z hz => (fr_s hz hq rfl rfl)) (fun z hz => (fr_s hz hq rfl rfl)))) fr_0
def F_kfl_pi_cycle_46 : List Nat := [233, 235]
def A_kfl_pi_cycle_46 : List Nat := [25, 71, 78, 85, 86, 87, 88, 89, 90, 94, 98, 101, 102, 103, 104, 105, 106]
theorem u_kfl_pi_cycle_46 (v1 : Int) (m : mR) : RP (kfl_pi_cycle_46 v1 m) (fun z : Int × mR => fr F_kfl_pi_cycle_46 A_kfl_pi_cycle_46 m z.2) := by
  unfold kfl_pi_cycle_46
  refine RP_bnd (uw_kfb_pi_cycle_48 v1 (v1, m)) (fun e22 h1 => ?_)
  have h2 : fr F_kfl_pi_cycle_46 A_kfl_pi_cycle_46 m e22 := (fr_s h1 fr_0 rfl rfl)
  exact RP_w (u_kfl_pi_cycle_72 v1 e22) (fun z hz => (fr_s hz h2 rfl rfl))
theorem u_kf_pi_cycle (m : mR) : RP (kf_pi_cycle m) (fun z : Int × mR => fr kF_pi_cycle kA_pi_cycle m z.2) := by
  unfold kf_pi_cycle
  refine RP_ite (fun h1 => ?_) (fun h1 => ?_)
  · skip
    exact RP_w (u_kfl_pi_cycle_46 (cut ((m.1 226) - 1)) m) (fun z hz => (fr_s hz fr_0 rfl rfl))
  · skip
    refine RP_bnd (u_kf_op_leave (kopi (m.2 106) (m.2 107) (cut ((m.1 226) - 1))) (m.1 235) m) (fun y27 h2 => ?_)
    have h3 : fr kF_pi_cycle kA_pi_cycle m y27.2 := (fr_s h2 fr_0 rfl rfl)
    exact RP_w (u_kfl_pi_cycle_46 (cut ((m.1 226) - 1)) (mO y27.2 [(234, cut ((y27.2.1 234) + 1))] [])) (fun z hz => (fr_s hz (fr_m h3 rfl rfl) rfl rfl))
def kF_pw_run : List Nat := [233, 234, 235]
def kA_pw_run : List Nat := [25, 71, 78, 85, 86, 87, 88, 89, 90, 92, 94, 98, 99, 100, 101, 102, 103, 104, 105, 106]
def F_kfl_pw_run_67 : List Nat := []
def A_kfl_pw_run_67 : List Nat := []
theorem u_kfl_pw_run_67 (v2 : Int) (m : mR) : RP (kfl_pw_run_67 v2 m) (fun z : Int × Int × mR => fr F_kfl_pw_run_67 A_kfl_pw_run_67 m z.2.2) := by
  unfold kfl_pw_run_67
  exact RP_some fr_0
def F_kfb_pw_run_49 : List Nat := [233, 234, 235]
def A_kfb_pw_run_49 : List Nat := [25, 71, 78, 85, 86, 87, 88, 89, 90, 92, 94, 98, 99, 100, 101, 102, 103, 104, 105, 106]
theorem u_kfb_pw_run_49 (v1 : Int) (v2 : Int) (s : Int × mR) : RP (kfb_pw_run_49 v1 v2 s) (sel (fun z : (Int × mR) => fr F_kfb_pw_run_49 A_kfb_pw_run_49 s.2 z.2) (fun z : mR => fr F_kfb_pw_run_49 A_kfb_pw_run_49 s.2 z)) := by
  unfold kfb_pw_run_49
  refine RP_ite (fun h1 => ?_) (fun h1 => ?_)
  · skip
    exact RP_some fr_0
  · skip
    refine RP_bnd (u_kf_pi_cycle s.2) (fun y4 h2 => ?_)
    have h3 : fr F_kfb_pw_run_49 A_kfb_pw_run_49 s.2 y4.2 := (fr_s h2 fr_0 rfl rfl)
    exact RP_some h3
theorem uw_kfb_pw_run_49 (v1 : Int) (v2 : Int) (s : Int × mR) : RP (whl (kfb_pw_run_49 v1 v2) s) (fun z : mR => fr F_kfb_pw_run_49 A_kfb_pw_run_49 s.2 z) := RP_whl (I := fun q : Int × mR => fr F_kfb_pw_run_49 A_kfb_pw_run_49 s.2 q.2) (fun q hq => RP_w (u_kfb_pw_run_49 v1 v2 q) (sl_w (fun z hz => (fr_s hz hq rfl rfl)) (fun z hz => (fr_s hz hq rfl rfl)))) fr_0
def F_kfl_pw_run_28 : List Nat := []
def A_kfl_pw_run_28 : List Nat := []
theorem u_kfl_pw_run_28 (m : mR) : RP (kfl_pw_run_28 m) (fun z : Int × Int × mR => fr F_kfl_pw_run_28 A_kfl_pw_run_28 m z.2.2) := by
  unfold kfl_pw_run_28
  exact RP_some fr_0
theorem u_kf_pw_run (v1 : Int) (m : mR) : RP (kf_pw_run v1 m) (fun z : Int × Int × mR => fr kF_pw_run kA_pw_run m z.2.2) := by
  unfold kf_pw_run
  refine RP_bndT (fun y7 => ?_)
  refine RP_ite (fun h1 => ?_) (fun h1 => ?_)
  · skip
    exact RP_some fr_0
  · skip
    refine RP_ite (fun h2 => ?_) (fun h2 => ?_)
    · skip
      exact RP_w (u_kfl_pw_run_28 m) (fun z hz => (fr_s hz fr_0 rfl rfl))
    · skip
      refine RP_ite (fun h3 => ?_) (fun h3 => ?_)
      · skip
        refine RP_bnd (uw_kfb_pw_run_49 v1 (m.1 234) (0, m)) (fun e13 h4 => ?_)
        have h5 : fr kF_pw_run kA_pw_run m e13 := (fr_s h4 fr_0 rfl rfl)
        exact RP_w (u_kfl_pw_run_67 (m.1 234) e13) (fun z hz => (fr_s hz h5 rfl rfl))
      · skip
        exact RP_w (u_kfl_pw_run_28 m) (fun z hz => (fr_s hz fr_0 rfl rfl))
def kF_pw_word : List Nat := []
def kA_pw_word : List Nat := []
def F_kfl_pw_word_60 : List Nat := []
def A_kfl_pw_word_60 : List Nat := []
theorem u_kfl_pw_word_60 (m : mR) : RP (kfl_pw_word_60 m) (fun z : Int × Int × mR => fr F_kfl_pw_word_60 A_kfl_pw_word_60 m z.2.2) := by
  unfold kfl_pw_word_60
  exact RP_some fr_0
theorem u_kf_pw_word (v1 : Int) (v2 : Int) (m : mR) : RP (kf_pw_word v1 v2 m) (fun z : Int × Int × mR => fr kF_pw_word kA_pw_word m z.2.2) := by
  unfold kf_pw_word
  refine RP_bndT (fun y1 => ?_)
  refine RP_ite (fun h1 => ?_) (fun h1 => ?_)
  · skip
    refine RP_bndT (fun y5 => ?_)
    refine RP_ite (fun h2 => ?_) (fun h2 => ?_)
    · skip
      exact RP_w (u_kfl_pw_word_60 m) (fun z hz => (fr_s hz fr_0 rfl rfl))
    · skip
      refine RP_ite (fun h3 => ?_) (fun h3 => ?_)
      · skip
        exact RP_w (u_kfl_pw_word_60 m) (fun z hz => (fr_s hz fr_0 rfl rfl))
      · skip
        refine RP_ite (fun h4 => ?_) (fun h4 => ?_)
        · skip
          exact RP_w (u_kfl_pw_word_60 m) (fun z hz => (fr_s hz fr_0 rfl rfl))
        · skip
          refine RP_ite (fun h5 => ?_) (fun h5 => ?_)
          · skip
            exact RP_w (u_kfl_pw_word_60 m) (fun z hz => (fr_s hz fr_0 rfl rfl))
          · skip
            refine RP_ite (fun h6 => ?_) (fun h6 => ?_)
            · skip
              exact RP_some fr_0
            · skip
              exact RP_w (u_kfl_pw_word_60 m) (fun z hz => (fr_s hz fr_0 rfl rfl))
  · skip
    exact RP_some fr_0
def kF_pw_entries : List Nat := []
def kA_pw_entries : List Nat := [90]
def F_kfl_pw_entries_69 : List Nat := []
def A_kfl_pw_entries_69 : List Nat := []
theorem u_kfl_pw_entries_69 (u0 : Int) (m : mR) : RP (kfl_pw_entries_69 u0 m) (fun z : Int × Int × mR => fr F_kfl_pw_entries_69 A_kfl_pw_entries_69 m z.2.2) := by
  unfold kfl_pw_entries_69
  exact RP_some fr_0
theorem u_kf_pw_entries (v1 : Int) (v2 : Int) (m : mR) : RP (kf_pw_entries v1 v2 m) (fun z : Int × Int × mR => fr kF_pw_entries kA_pw_entries m z.2.2) := by
  unfold kf_pw_entries
  refine RP_bndT (fun y1 => ?_)
  refine RP_ite (fun h1 => ?_) (fun h1 => ?_)
  · skip
    refine RP_bndT (fun y5 => ?_)
    refine RP_ite (fun h2 => ?_) (fun h2 => ?_)
    · skip
      exact RP_some fr_0
    · skip
      refine RP_ite (fun h3 => ?_) (fun h3 => ?_)
      · skip
        exact RP_w (u_kfl_pw_entries_69 ((m.2 78) v1) m) (fun z hz => (fr_s hz fr_0 rfl rfl))
      · skip
        refine RP_ite (fun h4 => ?_) (fun h4 => ?_)
        · skip
          refine RP_bnd (u_kf_tb_above v1 ((m.2 78) v1) m) (fun y12 h5 => ?_)
          have h6 : fr kF_pw_entries kA_pw_entries m y12.2 := (fr_s h5 fr_0 rfl rfl)
          exact RP_w (u_kfl_pw_entries_69 y12.1 y12.2) (fun z hz => (fr_s hz h6 rfl rfl))
        · skip
          exact RP_w (u_kfl_pw_entries_69 (-1) m) (fun z hz => (fr_s hz fr_0 rfl rfl))
  · skip
    exact RP_some fr_0
