def kF_rd_keyLine : List Nat := [205, 206, 207, 208, 209, 210, 211, 212, 213, 220, 228, 229, 230, 231]
def kA_rd_keyLine : List Nat := [18, 19, 20, 21, 22, 23, 24, 68, 69, 70, 72, 79, 80, 81, 82]
def F_kfl_rd_keyLine_217 : List Nat := [205, 206, 207, 208, 209, 210, 211, 212]
def A_kfl_rd_keyLine_217 : List Nat := [72, 81]
theorem u_kfl_rd_keyLine_217 (v1 : Int) (v2 : Int) (v4 : Int) (m : mR) : RP (kfl_rd_keyLine_217 v1 v2 v4 m) (fun z : Int × Int × mR => fr F_kfl_rd_keyLine_217 A_kfl_rd_keyLine_217 m z.2.2) := by
  unfold kfl_rd_keyLine_217
  refine RP_bnd (u_kf_tx_expect 59 (mO m [] [(72, upI (m.2 72) v1 (cut (v2 + 1))), (81, upI (m.2 81) (65536 * v1 + v2) v4)])) (fun y1 h1 => ?_)
  have h2 : fr F_kfl_rd_keyLine_217 A_kfl_rd_keyLine_217 m y1.2.2 := (fr_s h1 (fr_m fr_0 rfl rfl) rfl rfl)
  refine RP_ite (fun h3 => ?_) (fun h3 => ?_)
  · skip
    exact RP_some h2
  · skip
    exact RP_some h2
def F_kfl_rd_keyLine_199 : List Nat := [205, 206, 207, 208, 209, 210, 211, 212]
def A_kfl_rd_keyLine_199 : List Nat := [72, 81]
theorem u_kfl_rd_keyLine_199 (v1 : Int) (v2 : Int) (v4 : Int) (v5 : Int) (u0 : Int) (m : mR) : RP (kfl_rd_keyLine_199 v1 v2 v4 v5 u0 m) (fun z : Int × Int × mR => fr F_kfl_rd_keyLine_199 A_kfl_rd_keyLine_199 m z.2.2) := by
  unfold kfl_rd_keyLine_199
  refine RP_ite (fun h1 => ?_) (fun h1 => ?_)
  · skip
    exact RP_w (u_kfl_rd_keyLine_217 v1 v2 v4 m) (fun z hz => (fr_s hz fr_0 rfl rfl))
  · skip
    refine RP_bnd (u_kf_tx_fail 8 v5 m) (fun y5 h2 => ?_)
    have h3 : fr F_kfl_rd_keyLine_199 A_kfl_rd_keyLine_199 m y5.2.2 := (fr_s h2 fr_0 rfl rfl)
    refine RP_ite (fun h4 => ?_) (fun h4 => ?_)
    · skip
      exact RP_w (u_kfl_rd_keyLine_217 v1 v2 v4 y5.2.2) (fun z hz => (fr_s hz h3 rfl rfl))
    · skip
      exact RP_some h3
def F_kfl_rd_keyLine_198 : List Nat := [205, 206, 207, 208, 209, 210, 211, 212]
def A_kfl_rd_keyLine_198 : List Nat := [72, 81]
theorem u_kfl_rd_keyLine_198 (v1 : Int) (v2 : Int) (v4 : Int) (v5 : Int) (m : mR) : RP (kfl_rd_keyLine_198 v1 v2 v4 v5 m) (fun z : Int × Int × mR => fr F_kfl_rd_keyLine_198 A_kfl_rd_keyLine_198 m z.2.2) := by
  unfold kfl_rd_keyLine_198
  exact RP_w (u_kfl_rd_keyLine_199 v1 v2 v4 v5 0 m) (fun z hz => (fr_s hz fr_0 rfl rfl))
def F_kfl_rd_keyLine_194 : List Nat := [205, 206, 207, 208, 209, 210, 211, 212]
def A_kfl_rd_keyLine_194 : List Nat := [72, 81]
theorem u_kfl_rd_keyLine_194 (v1 : Int) (v2 : Int) (v4 : Int) (v5 : Int) (m : mR) : RP (kfl_rd_keyLine_194 v1 v2 v4 v5 m) (fun z : Int × Int × mR => fr F_kfl_rd_keyLine_194 A_kfl_rd_keyLine_194 m z.2.2) := by
  unfold kfl_rd_keyLine_194
  exact RP_w (u_kfl_rd_keyLine_199 v1 v2 v4 v5 1 m) (fun z hz => (fr_s hz fr_0 rfl rfl))
def F_kfl_rd_keyLine_176 : List Nat := [205, 206, 207, 208, 209, 210, 211, 212]
def A_kfl_rd_keyLine_176 : List Nat := [72, 81]
theorem u_kfl_rd_keyLine_176 (v1 : Int) (v2 : Int) (v4 : Int) (v5 : Int) (m : mR) : RP (kfl_rd_keyLine_176 v1 v2 v4 v5 m) (fun z : Int × Int × mR => fr F_kfl_rd_keyLine_176 A_kfl_rd_keyLine_176 m z.2.2) := by
  unfold kfl_rd_keyLine_176
  refine RP_ite (fun h1 => ?_) (fun h1 => ?_)
  · skip
    refine RP_bndT (fun y9 => ?_)
    refine RP_ite (fun h2 => ?_) (fun h2 => ?_)
    · skip
      exact RP_w (u_kfl_rd_keyLine_198 v1 v2 v4 v5 m) (fun z hz => (fr_s hz fr_0 rfl rfl))
    · skip
      exact RP_w (u_kfl_rd_keyLine_194 v1 v2 v4 v5 m) (fun z hz => (fr_s hz fr_0 rfl rfl))
  · skip
    exact RP_w (u_kfl_rd_keyLine_198 v1 v2 v4 v5 m) (fun z hz => (fr_s hz fr_0 rfl rfl))
def F_kfl_rd_keyLine_151 : List Nat := [205, 206, 207, 208, 209, 210, 211, 212]
def A_kfl_rd_keyLine_151 : List Nat := [72, 81]
theorem u_kfl_rd_keyLine_151 (v1 : Int) (v2 : Int) (v4 : Int) (v5 : Int) (m : mR) : RP (kfl_rd_keyLine_151 v1 v2 v4 v5 m) (fun z : Int × Int × mR => fr F_kfl_rd_keyLine_151 A_kfl_rd_keyLine_151 m z.2.2) := by
  unfold kfl_rd_keyLine_151
  refine RP_bnd (u_kf_tx_advance m) (fun y13 h1 => ?_)
  have h2 : fr F_kfl_rd_keyLine_151 A_kfl_rd_keyLine_151 m y13.2.2 := (fr_s h1 fr_0 rfl rfl)
  refine RP_ite (fun h3 => ?_) (fun h3 => ?_)
  · skip
    refine RP_ite (fun h4 => ?_) (fun h4 => ?_)
    · skip
      exact RP_w (u_kfl_rd_keyLine_176 v1 v2 v4 v5 y13.2.2) (fun z hz => (fr_s hz h2 rfl rfl))
    · skip
      refine RP_bndT (fun y17 => ?_)
      refine RP_ite (fun h5 => ?_) (fun h5 => ?_)
      · skip
        exact RP_w (u_kfl_rd_keyLine_176 v1 v2 v4 v5 y13.2.2) (fun z hz => (fr_s hz h2 rfl rfl))
      · skip
        exact RP_w (u_kfl_rd_keyLine_194 v1 v2 v4 v5 y13.2.2) (fun z hz => (fr_s hz h2 rfl rfl))
  · skip
    exact RP_some h2
def F_kfl_rd_keyLine_33 : List Nat := [205, 206, 207, 208, 209, 210, 211, 212, 213, 220, 228, 229, 230, 231]
def A_kfl_rd_keyLine_33 : List Nat := [18, 19, 20, 21, 22, 23, 24, 68, 69, 70, 72, 79, 80, 81, 82]
theorem u_kfl_rd_keyLine_33 (v1 : Int) (v2 : Int) (m : mR) : RP (kfl_rd_keyLine_33 v1 v2 m) (fun z : Int × Int × mR => fr F_kfl_rd_keyLine_33 A_kfl_rd_keyLine_33 m z.2.2) := by
  unfold kfl_rd_keyLine_33
  refine RP_bnd (u_kf_tx_expect 311 m) (fun y21 h1 => ?_)
  have h2 : fr F_kfl_rd_keyLine_33 A_kfl_rd_keyLine_33 m y21.2.2 := (fr_s h1 fr_0 rfl rfl)
  refine RP_ite (fun h3 => ?_) (fun h3 => ?_)
  · skip
    refine RP_bnd (u_kf_fm_whole (-1) (mO y21.2.2 [] [(79, upI (y21.2.2.2 79) (65536 * v1 + v2) (y21.2.2.1 220))])) (fun y24 h4 => ?_)
    have h5 : fr F_kfl_rd_keyLine_33 A_kfl_rd_keyLine_33 m y24.2.2 := (fr_s h4 (fr_m h2 rfl rfl) rfl rfl)
    refine RP_ite (fun h6 => ?_) (fun h6 => ?_)
    · skip
      refine RP_bnd (u_kf_tx_expect 58 (mO y24.2.2 [] [(80, upI (y24.2.2.2 80) (65536 * v1 + v2) y24.2.1), (82, upI (y24.2.2.2 82) (65536 * v1 + v2) ((y24.2.2.2 22) y24.2.1))])) (fun y27 h7 => ?_)
      have h8 : fr F_kfl_rd_keyLine_33 A_kfl_rd_keyLine_33 m y27.2.2 := (fr_s h7 (fr_m h5 rfl rfl) rfl rfl)
      refine RP_ite (fun h9 => ?_) (fun h9 => ?_)
      · skip
        refine RP_ite (fun h10 => ?_) (fun h10 => ?_)
        · skip
          exact RP_w (u_kfl_rd_keyLine_151 v1 v2 (y27.2.2.1 206) (y27.2.2.1 207) y27.2.2) (fun z hz => (fr_s hz h8 rfl rfl))
        · skip
          refine RP_ite (fun h11 => ?_) (fun h11 => ?_)
          · skip
            exact RP_w (u_kfl_rd_keyLine_151 v1 v2 (y27.2.2.1 206) (y27.2.2.1 207) y27.2.2) (fun z hz => (fr_s hz h8 rfl rfl))
          · skip
            refine RP_ite (fun h12 => ?_) (fun h12 => ?_)
            · skip
              exact RP_w (u_kfl_rd_keyLine_151 v1 v2 (y27.2.2.1 206) (y27.2.2.1 207) y27.2.2) (fun z hz => (fr_s hz h8 rfl rfl))
            · skip
              refine RP_bnd (u_kf_tx_refuse y27.2.2) (fun y33 h13 => ?_)
              have h14 : fr F_kfl_rd_keyLine_33 A_kfl_rd_keyLine_33 m y33.2.2 := (fr_s h13 h8 rfl rfl)
              refine RP_ite (fun h15 => ?_) (fun h15 => ?_)
              · skip
                exact RP_w (u_kfl_rd_keyLine_151 v1 v2 (y27.2.2.1 206) (y27.2.2.1 207) y33.2.2) (fun z hz => (fr_s hz h14 rfl rfl))
              · skip
                exact RP_some h14
      · skip
        exact RP_some h8
    · skip
      exact RP_some h5
  · skip
    exact RP_some h2
theorem u_kf_rd_keyLine (v1 : Int) (v2 : Int) (m : mR) : RP (kf_rd_keyLine v1 v2 m) (fun z : Int × Int × mR => fr kF_rd_keyLine kA_rd_keyLine m z.2.2) := by
  unfold kf_rd_keyLine
  refine RP_ite (fun h1 => ?_) (fun h1 => ?_)
  · skip
    refine RP_ite (fun h2 => ?_) (fun h2 => ?_)
    · skip
      exact RP_w (u_kfl_rd_keyLine_33 v1 v2 m) (fun z hz => (fr_s hz fr_0 rfl rfl))
    · skip
      refine RP_bnd (u_kf_tx_fail 4 (m.1 207) m) (fun y38 h3 => ?_)
      have h4 : fr kF_rd_keyLine kA_rd_keyLine m y38.2.2 := (fr_s h3 fr_0 rfl rfl)
      refine RP_ite (fun h5 => ?_) (fun h5 => ?_)
      · skip
        exact RP_w (u_kfl_rd_keyLine_33 v1 v2 y38.2.2) (fun z hz => (fr_s hz h4 rfl rfl))
      · skip
        exact RP_some h4
  · skip
    exact RP_w (u_kfl_rd_keyLine_33 v1 v2 m) (fun z hz => (fr_s hz fr_0 rfl rfl))
def kF_rd_table : List Nat := [203, 205, 206, 207, 208, 209, 210, 211, 212, 213, 219, 220, 228, 229, 230, 231]
def kA_rd_table : List Nat := [6, 7, 8, 9, 18, 19, 20, 21, 22, 23, 24, 68, 69, 70, 72, 73, 74, 75, 76, 77, 78, 79, 80, 81, 82, 83, 84]
def F_kfl_rd_table_144 : List Nat := [205, 206, 207, 208, 209, 210, 211, 212]
def A_kfl_rd_table_144 : List Nat := [74, 75, 76, 77, 84]
theorem u_kfl_rd_table_144 (v2 : Int) (m : mR) : RP (kfl_rd_table_144 v2 m) (fun z : Int × Int × mR => fr F_kfl_rd_table_144 A_kfl_rd_table_144 m z.2.2) := by
  unfold kfl_rd_table_144
  refine RP_bnd (u_kf_tx_expect 59 m) (fun y3 h1 => ?_)
  have h2 : fr F_kfl_rd_table_144 A_kfl_rd_table_144 m y3.2.2 := (fr_s h1 fr_0 rfl rfl)
  refine RP_ite (fun h3 => ?_) (fun h3 => ?_)
  · skip
    refine RP_bnd (u_kf_tx_expect 308 y3.2.2) (fun y6 h4 => ?_)
    have h5 : fr F_kfl_rd_table_144 A_kfl_rd_table_144 m y6.2.2 := (fr_s h4 h2 rfl rfl)
    refine RP_ite (fun h6 => ?_) (fun h6 => ?_)
    · skip
      refine RP_bnd (u_kf_rd_defaultLine v2 y6.2.2) (fun y9 h7 => ?_)
      have h8 : fr F_kfl_rd_table_144 A_kfl_rd_table_144 m y9.2.2 := (fr_s h7 h5 rfl rfl)
      refine RP_ite (fun h9 => ?_) (fun h9 => ?_)
      · skip
        refine RP_bnd (u_kf_tx_expect 316 y9.2.2) (fun y12 h10 => ?_)
        have h11 : fr F_kfl_rd_table_144 A_kfl_rd_table_144 m y12.2.2 := (fr_s h10 h8 rfl rfl)
        refine RP_ite (fun h12 => ?_) (fun h12 => ?_)
        · skip
          refine RP_bnd (u_kf_rd_roomLine v2 y12.2.2) (fun y15 h13 => ?_)
          have h14 : fr F_kfl_rd_table_144 A_kfl_rd_table_144 m y15.2.2 := (fr_s h13 h11 rfl rfl)
          refine RP_ite (fun h15 => ?_) (fun h15 => ?_)
          · skip
            refine RP_bnd (u_kf_tx_expect 125 y15.2.2) (fun y18 h16 => ?_)
            have h17 : fr F_kfl_rd_table_144 A_kfl_rd_table_144 m y18.2.2 := (fr_s h16 h14 rfl rfl)
            refine RP_ite (fun h18 => ?_) (fun h18 => ?_)
            · skip
              exact RP_some h17
            · skip
              exact RP_some h17
          · skip
            exact RP_some h14
        · skip
          exact RP_some h11
      · skip
        exact RP_some h8
    · skip
      exact RP_some h5
  · skip
    exact RP_some h2
def F_kfb_rd_table_115 : List Nat := [205, 206, 207, 208, 209, 210, 211, 212]
def A_kfb_rd_table_115 : List Nat := [73, 83]
theorem u_kfb_rd_table_115 (v2 : Int) (s : Int × Int × mR) : RP (kfb_rd_table_115 v2 s) (sel (fun z : (Int × Int × mR) => fr F_kfb_rd_table_115 A_kfb_rd_table_115 s.2.2 z.2.2) (sel (fun z : (mR) => fr F_kfb_rd_table_115 A_kfb_rd_table_115 s.2.2 z) (fun z : Int × mR => fr F_kfb_rd_table_115 A_kfb_rd_table_115 s.2.2 z.2))) := by
  unfold kfb_rd_table_115
  refine RP_ite (fun h1 => ?_) (fun h1 => ?_)
  · skip
    exact RP_some fr_0
  · skip
    refine RP_ite (fun h2 => ?_) (fun h2 => ?_)
    · skip
      exact RP_some fr_0
    · skip
      refine RP_bnd (u_kf_rd_listedAction v2 s.2.1 s.2.2) (fun y24 h3 => ?_)
      have h4 : fr F_kfb_rd_table_115 A_kfb_rd_table_115 s.2.2 y24.2.2 := (fr_s h3 fr_0 rfl rfl)
      refine RP_ite (fun h5 => ?_) (fun h5 => ?_)
      · skip
        refine RP_bnd (u_kf_rd_goesOnList y24.2.2) (fun y27 h6 => ?_)
        have h7 : fr F_kfb_rd_table_115 A_kfb_rd_table_115 s.2.2 y27.2.2 := (fr_s h6 h4 rfl rfl)
        refine RP_ite (fun h8 => ?_) (fun h8 => ?_)
        · skip
          exact RP_some h7
        · skip
          exact RP_some h7
      · skip
        exact RP_some h4
theorem uw_kfb_rd_table_115 (v2 : Int) (s : Int × Int × mR) : RP (whl (kfb_rd_table_115 v2) s) (sel (fun z : ((mR)) => fr F_kfb_rd_table_115 A_kfb_rd_table_115 s.2.2 z) (fun z : Int × mR => fr F_kfb_rd_table_115 A_kfb_rd_table_115 s.2.2 z.2)) := RP_whl (I := fun q : Int × Int × mR => fr F_kfb_rd_table_115 A_kfb_rd_table_115 s.2.2 q.2.2) (fun q hq => RP_w (u_kfb_rd_table_115 v2 q) (sl_w (fun z hz => (fr_s hz hq rfl rfl)) (sl_w (fun z hz => (fr_s hz hq rfl rfl)) (fun z hz => (fr_s hz hq rfl rfl))))) fr_0
def F_kfl_rd_table_100 : List Nat := [205, 206, 207, 208, 209, 210, 211, 212]
def A_kfl_rd_table_100 : List Nat := [73, 74, 75, 76, 77, 83, 84]
theorem u_kfl_rd_table_100 (v2 : Int) (m : mR) : RP (kfl_rd_table_100 v2 m) (fun z : Int × Int × mR => fr F_kfl_rd_table_100 A_kfl_rd_table_100 m z.2.2) := by
  unfold kfl_rd_table_100
  refine RP_bnd (u_kf_tx_expect 315 m) (fun y30 h1 => ?_)
  have h2 : fr F_kfl_rd_table_100 A_kfl_rd_table_100 m y30.2.2 := (fr_s h1 fr_0 rfl rfl)
  refine RP_ite (fun h3 => ?_) (fun h3 => ?_)
  · skip
    refine RP_bnd (uw_kfb_rd_table_115 v2 (1, 0, y30.2.2)) (RP_sl (fun e33 h4 => ?_) (fun e36 h6 => ?_))
    · skip
      have h5 : fr F_kfl_rd_table_100 A_kfl_rd_table_100 m e33 := (fr_s h4 h2 rfl rfl)
      exact RP_w (u_kfl_rd_table_144 v2 e33) (fun z hz => (fr_s hz h5 rfl rfl))
    · skip
      have h7 : fr F_kfl_rd_table_100 A_kfl_rd_table_100 m e36.2 := (fr_s h6 h2 rfl rfl)
      exact RP_some h7
  · skip
    exact RP_some h2
def F_kfl_rd_table_88 : List Nat := [205, 206, 207, 208, 209, 210, 211, 212, 213, 220, 228, 229, 230, 231]
def A_kfl_rd_table_88 : List Nat := [18, 19, 20, 21, 22, 23, 24, 68, 69, 70, 72, 79, 80, 81, 82]
theorem u_kfl_rd_table_88 (v2 : Int) (v3 : Int) (m : mR) : RP (kfl_rd_table_88 v2 v3 m) (sel (fun z : (Int × mR) => fr F_kfl_rd_table_88 A_kfl_rd_table_88 m z.2) (sel (fun z : (mR) => fr F_kfl_rd_table_88 A_kfl_rd_table_88 m z) (fun z : Int × mR => fr F_kfl_rd_table_88 A_kfl_rd_table_88 m z.2))) := by
  unfold kfl_rd_table_88
  refine RP_bnd (u_kf_rd_keyLine v2 v3 m) (fun y38 h1 => ?_)
  have h2 : fr F_kfl_rd_table_88 A_kfl_rd_table_88 m y38.2.2 := (fr_s h1 fr_0 rfl rfl)
  refine RP_ite (fun h3 => ?_) (fun h3 => ?_)
  · skip
    exact RP_some h2
  · skip
    exact RP_some h2
def F_kfb_rd_table_66 : List Nat := [205, 206, 207, 208, 209, 210, 211, 212, 213, 220, 228, 229, 230, 231]
def A_kfb_rd_table_66 : List Nat := [18, 19, 20, 21, 22, 23, 24, 68, 69, 70, 72, 79, 80, 81, 82]
theorem u_kfb_rd_table_66 (v2 : Int) (s : Int × mR) : RP (kfb_rd_table_66 v2 s) (sel (fun z : (Int × mR) => fr F_kfb_rd_table_66 A_kfb_rd_table_66 s.2 z.2) (sel (fun z : (mR) => fr F_kfb_rd_table_66 A_kfb_rd_table_66 s.2 z) (fun z : Int × mR => fr F_kfb_rd_table_66 A_kfb_rd_table_66 s.2 z.2))) := by
  unfold kfb_rd_table_66
  refine RP_ite (fun h1 => ?_) (fun h1 => ?_)
  · skip
    exact RP_some fr_0
  · skip
    refine RP_ite (fun h2 => ?_) (fun h2 => ?_)
    · skip
      exact RP_w (u_kfl_rd_table_88 v2 s.1 s.2) (sl_w (fun z hz => (fr_s hz fr_0 rfl rfl)) (sl_w (fun z hz => (fr_s hz fr_0 rfl rfl)) (fun z hz => (fr_s hz fr_0 rfl rfl))))
    · skip
      refine RP_ite (fun h3 => ?_) (fun h3 => ?_)
      · skip
        exact RP_w (u_kfl_rd_table_88 v2 s.1 s.2) (sl_w (fun z hz => (fr_s hz fr_0 rfl rfl)) (sl_w (fun z hz => (fr_s hz fr_0 rfl rfl)) (fun z hz => (fr_s hz fr_0 rfl rfl))))
      · skip
        exact RP_some fr_0
theorem uw_kfb_rd_table_66 (v2 : Int) (s : Int × mR) : RP (whl (kfb_rd_table_66 v2) s) (sel (fun z : ((mR)) => fr F_kfb_rd_table_66 A_kfb_rd_table_66 s.2 z) (fun z : Int × mR => fr F_kfb_rd_table_66 A_kfb_rd_table_66 s.2 z.2)) := RP_whl (I := fun q : Int × mR => fr F_kfb_rd_table_66 A_kfb_rd_table_66 s.2 q.2) (fun q hq => RP_w (u_kfb_rd_table_66 v2 q) (sl_w (fun z hz => (fr_s hz hq rfl rfl)) (sl_w (fun z hz => (fr_s hz hq rfl rfl)) (fun z hz => (fr_s hz hq rfl rfl))))) fr_0
theorem u_kf_rd_table (m : mR) : RP (kf_rd_table m) (fun z : Int × Int × mR => fr kF_rd_table kA_rd_table m z.2.2) := by
  unfold kf_rd_table
  refine RP_bnd (u_kf_tx_advance m) (fun y45 h1 => ?_)
  have h2 : fr kF_rd_table kA_rd_table m y45.2.2 := (fr_s h1 fr_0 rfl rfl)
  refine RP_ite (fun h3 => ?_) (fun h3 => ?_)
  · skip
    refine RP_bnd (u_kf_tx_makeNew 310 (y45.2.2.1 219) 8 y45.2.2) (fun y48 h4 => ?_)
    have h5 : fr kF_rd_table kA_rd_table m y48.2.2 := (fr_s h4 h2 rfl rfl)
    refine RP_ite (fun h6 => ?_) (fun h6 => ?_)
    · skip
      refine RP_bnd (u_kf_tb_clear (y45.2.2.1 219) (mO y48.2.2 [(219, cut ((y48.2.2.1 219) + 1))] [])) (fun y52 h7 => ?_)
      have h8 : fr kF_rd_table kA_rd_table m y52.2 := (fr_s h7 (fr_m h5 rfl rfl) rfl rfl)
      refine RP_bnd (u_kf_tx_expect 123 y52.2) (fun y55 h9 => ?_)
      have h10 : fr kF_rd_table kA_rd_table m y55.2.2 := (fr_s h9 h8 rfl rfl)
      refine RP_ite (fun h11 => ?_) (fun h11 => ?_)
      · skip
        refine RP_bnd (uw_kfb_rd_table_66 (y45.2.2.1 219) (0, y55.2.2)) (RP_sl (fun e58 h12 => ?_) (fun e61 h14 => ?_))
        · skip
          have h13 : fr kF_rd_table kA_rd_table m e58 := (fr_s h12 h10 rfl rfl)
          exact RP_w (u_kfl_rd_table_100 (y45.2.2.1 219) e58) (fun z hz => (fr_s hz h13 rfl rfl))
        · skip
          have h15 : fr kF_rd_table kA_rd_table m e61.2 := (fr_s h14 h10 rfl rfl)
          exact RP_some h15
      · skip
        exact RP_some h10
    · skip
      exact RP_some h5
  · skip
    exact RP_some h2
def kF_rd_parameter : List Nat := [205, 206, 207, 208, 209, 210, 211, 212]
def kA_rd_parameter : List Nat := [39, 40, 41, 42]
def F_kfl_rd_parameter_81 : List Nat := [205, 206, 207, 208, 209, 210, 211, 212]
def A_kfl_rd_parameter_81 : List Nat := [39, 40, 41, 42]
theorem u_kfl_rd_parameter_81 (v1 : Int) (v2 : Int) (m : mR) : RP (kfl_rd_parameter_81 v1 v2 m) (fun z : Int × Int × mR => fr F_kfl_rd_parameter_81 A_kfl_rd_parameter_81 m z.2.2) := by
  unfold kfl_rd_parameter_81
  refine RP_bnd (u_kf_tx_advance (mO m [] [(41, upI (m.2 41) (cut ((cut (v1 * 4)) + v2)) (m.1 209)), (42, upI (m.2 42) (cut ((cut (v1 * 4)) + v2)) (m.1 210))])) (fun y1 h1 => ?_)
  have h2 : fr F_kfl_rd_parameter_81 A_kfl_rd_parameter_81 m y1.2.2 := (fr_s h1 (fr_m fr_0 rfl rfl) rfl rfl)
  refine RP_ite (fun h3 => ?_) (fun h3 => ?_)
  · skip
    refine RP_bnd (u_kf_tx_expect 58 y1.2.2) (fun y4 h4 => ?_)
    have h5 : fr F_kfl_rd_parameter_81 A_kfl_rd_parameter_81 m y4.2.2 := (fr_s h4 h2 rfl rfl)
    refine RP_ite (fun h6 => ?_) (fun h6 => ?_)
    · skip
      refine RP_bnd (u_kf_tx_within 1 64 y4.2.2) (fun y7 h7 => ?_)
      have h8 : fr F_kfl_rd_parameter_81 A_kfl_rd_parameter_81 m y7.2.2 := (fr_s h7 h5 rfl rfl)
      refine RP_ite (fun h9 => ?_) (fun h9 => ?_)
      · skip
        exact RP_some (fr_m h8 rfl rfl)
      · skip
        exact RP_some h8
    · skip
      exact RP_some h5
  · skip
    exact RP_some h2
def F_kfl_rd_parameter_40 : List Nat := [205, 206, 207, 208, 209, 210, 211, 212]
def A_kfl_rd_parameter_40 : List Nat := [39, 40, 41, 42]
theorem u_kfl_rd_parameter_40 (v1 : Int) (v2 : Int) (m : mR) : RP (kfl_rd_parameter_40 v1 v2 m) (fun z : Int × Int × mR => fr F_kfl_rd_parameter_40 A_kfl_rd_parameter_40 m z.2.2) := by
  unfold kfl_rd_parameter_40
  refine RP_bndT (fun y10 => ?_)
  refine RP_ite (fun h1 => ?_) (fun h1 => ?_)
  · skip
    exact RP_w (u_kfl_rd_parameter_81 v1 v2 m) (fun z hz => (fr_s hz fr_0 rfl rfl))
  · skip
    refine RP_bnd (u_kf_tx_fail 3 (m.1 207) m) (fun y14 h2 => ?_)
    have h3 : fr F_kfl_rd_parameter_40 A_kfl_rd_parameter_40 m y14.2.2 := (fr_s h2 fr_0 rfl rfl)
    refine RP_ite (fun h4 => ?_) (fun h4 => ?_)
    · skip
      exact RP_w (u_kfl_rd_parameter_81 v1 v2 y14.2.2) (fun z hz => (fr_s hz h3 rfl rfl))
    · skip
      exact RP_some h3
def F_kfl_rd_parameter_20 : List Nat := [205, 206, 207, 208, 209, 210, 211, 212]
def A_kfl_rd_parameter_20 : List Nat := [39, 40, 41, 42]
theorem u_kfl_rd_parameter_20 (v1 : Int) (v2 : Int) (m : mR) : RP (kfl_rd_parameter_20 v1 v2 m) (fun z : Int × Int × mR => fr F_kfl_rd_parameter_20 A_kfl_rd_parameter_20 m z.2.2) := by
  unfold kfl_rd_parameter_20
  refine RP_ite (fun h1 => ?_) (fun h1 => ?_)
  · skip
    exact RP_w (u_kfl_rd_parameter_40 v1 v2 m) (fun z hz => (fr_s hz fr_0 rfl rfl))
  · skip
    refine RP_bnd (u_kf_tx_fail 4 (m.1 207) m) (fun y18 h2 => ?_)
    have h3 : fr F_kfl_rd_parameter_20 A_kfl_rd_parameter_20 m y18.2.2 := (fr_s h2 fr_0 rfl rfl)
    refine RP_ite (fun h4 => ?_) (fun h4 => ?_)
    · skip
      exact RP_w (u_kfl_rd_parameter_40 v1 v2 y18.2.2) (fun z hz => (fr_s hz h3 rfl rfl))
    · skip
      exact RP_some h3
theorem u_kf_rd_parameter (v1 : Int) (v2 : Int) (m : mR) : RP (kf_rd_parameter v1 v2 m) (fun z : Int × Int × mR => fr kF_rd_parameter kA_rd_parameter m z.2.2) := by
  unfold kf_rd_parameter
  refine RP_ite (fun h1 => ?_) (fun h1 => ?_)
  · skip
    exact RP_w (u_kfl_rd_parameter_20 v1 v2 m) (fun z hz => (fr_s hz fr_0 rfl rfl))
  · skip
    refine RP_bnd (u_kf_tx_refuse m) (fun y22 h2 => ?_)
    have h3 : fr kF_rd_parameter kA_rd_parameter m y22.2.2 := (fr_s h2 fr_0 rfl rfl)
    refine RP_ite (fun h4 => ?_) (fun h4 => ?_)
    · skip
      exact RP_w (u_kfl_rd_parameter_20 v1 v2 y22.2.2) (fun z hz => (fr_s hz h3 rfl rfl))
    · skip
      exact RP_some h3
def kF_rd_action : List Nat := [203, 205, 206, 207, 208, 209, 210, 211, 212, 213, 220, 223, 224, 228, 229, 230, 231]
def kA_rd_action : List Nat := [6, 7, 8, 9, 18, 19, 20, 21, 22, 23, 24, 39, 40, 41, 42, 43, 44, 45, 46, 47, 48, 49, 50, 51, 68, 69, 70]
def F_kfl_rd_action_188 : List Nat := [205, 206, 207, 208, 209, 210, 211, 212]
def A_kfl_rd_action_188 : List Nat := [44]
theorem u_kfl_rd_action_188 (v1 : Int) (m : mR) : RP (kfl_rd_action_188 v1 m) (fun z : Int × Int × mR => fr F_kfl_rd_action_188 A_kfl_rd_action_188 m z.2.2) := by
  unfold kfl_rd_action_188
  refine RP_bnd (u_kf_tx_expect 125 (mO m [] [(44, upI (m.2 44) v1 (cut ((m.1 224) - ((m.2 43) v1))))])) (fun y3 h1 => ?_)
  have h2 : fr F_kfl_rd_action_188 A_kfl_rd_action_188 m y3.2.2 := (fr_s h1 (fr_m fr_0 rfl rfl) rfl rfl)
  refine RP_ite (fun h3 => ?_) (fun h3 => ?_)
  · skip
    exact RP_some h2
  · skip
    exact RP_some h2
def F_kfl_rd_action_176 : List Nat := [205, 206, 207, 208, 209, 210, 211, 212, 213, 220, 224, 228, 229, 230, 231]
def A_kfl_rd_action_176 : List Nat := [18, 19, 20, 21, 22, 23, 24, 45, 46, 47, 48, 49, 50, 51, 68, 69, 70]
theorem u_kfl_rd_action_176 (v1 : Int) (v3 : Int) (m : mR) : RP (kfl_rd_action_176 v1 v3 m) (sel (fun z : (Int × mR) => fr F_kfl_rd_action_176 A_kfl_rd_action_176 m z.2) (sel (fun z : (mR) => fr F_kfl_rd_action_176 A_kfl_rd_action_176 m z) (fun z : Int × mR => fr F_kfl_rd_action_176 A_kfl_rd_action_176 m z.2))) := by
  unfold kfl_rd_action_176
  refine RP_bnd (u_kf_rd_statement v1 m) (fun y6 h1 => ?_)
  have h2 : fr F_kfl_rd_action_176 A_kfl_rd_action_176 m y6.2.2 := (fr_s h1 fr_0 rfl rfl)
  refine RP_ite (fun h3 => ?_) (fun h3 => ?_)
  · skip
    exact RP_some h2
  · skip
    exact RP_some h2
def F_kfb_rd_action_142 : List Nat := [205, 206, 207, 208, 209, 210, 211, 212, 213, 220, 224, 228, 229, 230, 231]
def A_kfb_rd_action_142 : List Nat := [18, 19, 20, 21, 22, 23, 24, 45, 46, 47, 48, 49, 50, 51, 68, 69, 70]
theorem u_kfb_rd_action_142 (v1 : Int) (s : Int × mR) : RP (kfb_rd_action_142 v1 s) (sel (fun z : (Int × mR) => fr F_kfb_rd_action_142 A_kfb_rd_action_142 s.2 z.2) (sel (fun z : (mR) => fr F_kfb_rd_action_142 A_kfb_rd_action_142 s.2 z) (fun z : Int × mR => fr F_kfb_rd_action_142 A_kfb_rd_action_142 s.2 z.2))) := by
  unfold kfb_rd_action_142
  refine RP_ite (fun h1 => ?_) (fun h1 => ?_)
  · skip
    exact RP_some fr_0
  · skip
    refine RP_bndT (fun y11 => ?_)
    refine RP_ite (fun h2 => ?_) (fun h2 => ?_)
    · skip
      exact RP_some fr_0
    · skip
      refine RP_ite (fun h3 => ?_) (fun h3 => ?_)
      · skip
        exact RP_w (u_kfl_rd_action_176 v1 s.1 s.2) (sl_w (fun z hz => (fr_s hz fr_0 rfl rfl)) (sl_w (fun z hz => (fr_s hz fr_0 rfl rfl)) (fun z hz => (fr_s hz fr_0 rfl rfl))))
      · skip
        refine RP_bnd (u_kf_tx_fail 4 (s.2.1 207) s.2) (fun y16 h4 => ?_)
        have h5 : fr F_kfb_rd_action_142 A_kfb_rd_action_142 s.2 y16.2.2 := (fr_s h4 fr_0 rfl rfl)
        refine RP_ite (fun h6 => ?_) (fun h6 => ?_)
        · skip
          exact RP_w (u_kfl_rd_action_176 v1 s.1 y16.2.2) (sl_w (fun z hz => (fr_s hz h5 rfl rfl)) (sl_w (fun z hz => (fr_s hz h5 rfl rfl)) (fun z hz => (fr_s hz h5 rfl rfl))))
        · skip
          exact RP_some h5
theorem uw_kfb_rd_action_142 (v1 : Int) (s : Int × mR) : RP (whl (kfb_rd_action_142 v1) s) (sel (fun z : ((mR)) => fr F_kfb_rd_action_142 A_kfb_rd_action_142 s.2 z) (fun z : Int × mR => fr F_kfb_rd_action_142 A_kfb_rd_action_142 s.2 z.2)) := RP_whl (I := fun q : Int × mR => fr F_kfb_rd_action_142 A_kfb_rd_action_142 s.2 q.2) (fun q hq => RP_w (u_kfb_rd_action_142 v1 q) (sl_w (fun z hz => (fr_s hz hq rfl rfl)) (sl_w (fun z hz => (fr_s hz hq rfl rfl)) (fun z hz => (fr_s hz hq rfl rfl))))) fr_0
def F_kfl_rd_action_106 : List Nat := [205, 206, 207, 208, 209, 210, 211, 212, 213, 220, 224, 228, 229, 230, 231]
def A_kfl_rd_action_106 : List Nat := [18, 19, 20, 21, 22, 23, 24, 43, 44, 45, 46, 47, 48, 49, 50, 51, 68, 69, 70]
theorem u_kfl_rd_action_106 (v1 : Int) (m : mR) : RP (kfl_rd_action_106 v1 m) (fun z : Int × Int × mR => fr F_kfl_rd_action_106 A_kfl_rd_action_106 m z.2.2) := by
  unfold kfl_rd_action_106
  refine RP_bnd (u_kf_tx_expect 41 m) (fun y19 h1 => ?_)
  have h2 : fr F_kfl_rd_action_106 A_kfl_rd_action_106 m y19.2.2 := (fr_s h1 fr_0 rfl rfl)
  refine RP_ite (fun h3 => ?_) (fun h3 => ?_)
  · skip
    refine RP_bnd (u_kf_tx_expect 123 y19.2.2) (fun y22 h4 => ?_)
    have h5 : fr F_kfl_rd_action_106 A_kfl_rd_action_106 m y22.2.2 := (fr_s h4 h2 rfl rfl)
    refine RP_ite (fun h6 => ?_) (fun h6 => ?_)
    · skip
      refine RP_bnd (uw_kfb_rd_action_142 v1 (0, (mO y22.2.2 [] [(43, upI (y22.2.2.2 43) v1 (y22.2.2.1 224))]))) (RP_sl (fun e25 h7 => ?_) (fun e28 h9 => ?_))
      · skip
        have h8 : fr F_kfl_rd_action_106 A_kfl_rd_action_106 m e25 := (fr_s h7 (fr_m h5 rfl rfl) rfl rfl)
        exact RP_w (u_kfl_rd_action_188 v1 e25) (fun z hz => (fr_s hz h8 rfl rfl))
      · skip
        have h10 : fr F_kfl_rd_action_106 A_kfl_rd_action_106 m e28.2 := (fr_s h9 (fr_m h5 rfl rfl) rfl rfl)
        exact RP_some h10
    · skip
      exact RP_some h5
  · skip
    exact RP_some h2
def F_kfb_rd_action_80 : List Nat := [205, 206, 207, 208, 209, 210, 211, 212]
def A_kfb_rd_action_80 : List Nat := [39, 40, 41, 42]
theorem u_kfb_rd_action_80 (v1 : Int) (s : Int × Int × mR) : RP (kfb_rd_action_80 v1 s) (sel (fun z : (Int × Int × mR) => fr F_kfb_rd_action_80 A_kfb_rd_action_80 s.2.2 z.2.2) (sel (fun z : (mR) => fr F_kfb_rd_action_80 A_kfb_rd_action_80 s.2.2 z) (fun z : Int × mR => fr F_kfb_rd_action_80 A_kfb_rd_action_80 s.2.2 z.2))) := by
  unfold kfb_rd_action_80
  refine RP_ite (fun h1 => ?_) (fun h1 => ?_)
  · skip
    exact RP_some fr_0
  · skip
    refine RP_ite (fun h2 => ?_) (fun h2 => ?_)
    · skip
      exact RP_some fr_0
    · skip
      refine RP_bnd (u_kf_rd_parameter v1 s.2.1 s.2.2) (fun y33 h3 => ?_)
      have h4 : fr F_kfb_rd_action_80 A_kfb_rd_action_80 s.2.2 y33.2.2 := (fr_s h3 fr_0 rfl rfl)
      refine RP_ite (fun h5 => ?_) (fun h5 => ?_)
      · skip
        refine RP_bnd (u_kf_rd_goesOnList y33.2.2) (fun y36 h6 => ?_)
        have h7 : fr F_kfb_rd_action_80 A_kfb_rd_action_80 s.2.2 y36.2.2 := (fr_s h6 h4 rfl rfl)
        refine RP_ite (fun h8 => ?_) (fun h8 => ?_)
        · skip
          exact RP_some h7
        · skip
          exact RP_some h7
      · skip
        exact RP_some h4
theorem uw_kfb_rd_action_80 (v1 : Int) (s : Int × Int × mR) : RP (whl (kfb_rd_action_80 v1) s) (sel (fun z : ((mR)) => fr F_kfb_rd_action_80 A_kfb_rd_action_80 s.2.2 z) (fun z : Int × mR => fr F_kfb_rd_action_80 A_kfb_rd_action_80 s.2.2 z.2)) := RP_whl (I := fun q : Int × Int × mR => fr F_kfb_rd_action_80 A_kfb_rd_action_80 s.2.2 q.2.2) (fun q hq => RP_w (u_kfb_rd_action_80 v1 q) (sl_w (fun z hz => (fr_s hz hq rfl rfl)) (sl_w (fun z hz => (fr_s hz hq rfl rfl)) (fun z hz => (fr_s hz hq rfl rfl))))) fr_0
def F_kfl_rd_action_77 : List Nat := [205, 206, 207, 208, 209, 210, 211, 212, 213, 220, 224, 228, 229, 230, 231]
def A_kfl_rd_action_77 : List Nat := [18, 19, 20, 21, 22, 23, 24, 39, 40, 41, 42, 43, 44, 45, 46, 47, 48, 49, 50, 51, 68, 69, 70]
theorem u_kfl_rd_action_77 (v1 : Int) (u0 : Int) (m : mR) : RP (kfl_rd_action_77 v1 u0 m) (fun z : Int × Int × mR => fr F_kfl_rd_action_77 A_kfl_rd_action_77 m z.2.2) := by
  unfold kfl_rd_action_77
  refine RP_bnd (uw_kfb_rd_action_80 v1 (u0, 0, m)) (RP_sl (fun e39 h1 => ?_) (fun e42 h3 => ?_))
  · skip
    have h2 : fr F_kfl_rd_action_77 A_kfl_rd_action_77 m e39 := (fr_s h1 fr_0 rfl rfl)
    exact RP_w (u_kfl_rd_action_106 v1 e39) (fun z hz => (fr_s hz h2 rfl rfl))
  · skip
    have h4 : fr F_kfl_rd_action_77 A_kfl_rd_action_77 m e42.2 := (fr_s h3 fr_0 rfl rfl)
    exact RP_some h4
theorem u_kf_rd_action (m : mR) : RP (kf_rd_action m) (fun z : Int × Int × mR => fr kF_rd_action kA_rd_action m z.2.2) := by
  unfold kf_rd_action
  refine RP_bnd (u_kf_tx_advance m) (fun y44 h1 => ?_)
  have h2 : fr kF_rd_action kA_rd_action m y44.2.2 := (fr_s h1 fr_0 rfl rfl)
  refine RP_ite (fun h3 => ?_) (fun h3 => ?_)
  · skip
    refine RP_bnd (u_kf_tx_makeNew 309 (y44.2.2.1 223) 16 y44.2.2) (fun y47 h4 => ?_)
    have h5 : fr kF_rd_action kA_rd_action m y47.2.2 := (fr_s h4 h2 rfl rfl)
    refine RP_ite (fun h6 => ?_) (fun h6 => ?_)
    · skip
      refine RP_bnd (u_kf_tx_expect 40 (mO y47.2.2 [(223, cut ((y47.2.2.1 223) + 1))] [(39, upI (y47.2.2.2 39) (y44.2.2.1 223) 0)])) (fun y50 h7 => ?_)
      have h8 : fr kF_rd_action kA_rd_action m y50.2.2 := (fr_s h7 (fr_m h5 rfl rfl) rfl rfl)
      refine RP_ite (fun h9 => ?_) (fun h9 => ?_)
      · skip
        refine RP_ite (fun h10 => ?_) (fun h10 => ?_)
        · skip
          exact RP_w (u_kfl_rd_action_77 (y44.2.2.1 223) 0 y50.2.2) (fun z hz => (fr_s hz h8 rfl rfl))
        · skip
          exact RP_w (u_kfl_rd_action_77 (y44.2.2.1 223) 1 y50.2.2) (fun z hz => (fr_s hz h8 rfl rfl))
      · skip
        exact RP_some h8
    · skip
      exact RP_some h5
  · skip
    exact RP_some h2
def kF_ss_add : List Nat := [221]
def kA_ss_add : List Nat := [26, 29, 30, 35, 36]
theorem u_kf_ss_add (v1 : Int) (m : mR) : RP (kf_ss_add v1 m) (fun z : Int × mR => fr kF_ss_add kA_ss_add m z.2) := by
  unfold kf_ss_add
  exact RP_some (fr_m fr_0 rfl rfl)
def kF_ss_stand : List Nat := [222]
def kA_ss_stand : List Nat := [36, 37]
theorem u_kf_ss_stand (v1 : Int) (v2 : Int) (m : mR) : RP (kf_ss_stand v1 v2 m) (fun z : Int × mR => fr kF_ss_stand kA_ss_stand m z.2) := by
  unfold kf_ss_stand
  exact RP_some (fr_m fr_0 rfl rfl)
def kF_rd_goal : List Nat := [203, 205, 206, 207, 208, 209, 210, 211, 212, 221]
def kA_rd_goal : List Nat := [6, 7, 8, 9, 26, 29, 30, 35, 36]
def F_kfl_rd_goal_24 : List Nat := [205, 206, 207, 208, 209, 210, 211, 212]
def A_kfl_rd_goal_24 : List Nat := []
theorem u_kfl_rd_goal_24 (m : mR) : RP (kfl_rd_goal_24 m) (fun z : Int × Int × mR => fr F_kfl_rd_goal_24 A_kfl_rd_goal_24 m z.2.2) := by
  unfold kfl_rd_goal_24
  refine RP_bnd (u_kf_tx_known 304 m) (fun y1 h1 => ?_)
  have h2 : fr F_kfl_rd_goal_24 A_kfl_rd_goal_24 m y1.2.2 := (fr_s h1 fr_0 rfl rfl)
  refine RP_ite (fun h3 => ?_) (fun h3 => ?_)
  · skip
    exact RP_some h2
  · skip
    exact RP_some h2
theorem u_kf_rd_goal (m : mR) : RP (kf_rd_goal m) (fun z : Int × Int × mR => fr kF_rd_goal kA_rd_goal m z.2.2) := by
  unfold kf_rd_goal
  refine RP_ite (fun h1 => ?_) (fun h1 => ?_)
  · skip
    refine RP_bndT (fun y5 => ?_)
    refine RP_ite (fun h2 => ?_) (fun h2 => ?_)
    · skip
      refine RP_bnd (u_kf_tx_makeNew 304 (m.1 221) 16 m) (fun y9 h3 => ?_)
      have h4 : fr kF_rd_goal kA_rd_goal m y9.2.2 := (fr_s h3 fr_0 rfl rfl)
      refine RP_ite (fun h5 => ?_) (fun h5 => ?_)
      · skip
        refine RP_bnd (u_kf_ss_add (m.1 207) y9.2.2) (fun y12 h6 => ?_)
        have h7 : fr kF_rd_goal kA_rd_goal m y12.2 := (fr_s h6 h4 rfl rfl)
        exact RP_some h7
      · skip
        exact RP_some h4
    · skip
      exact RP_w (u_kfl_rd_goal_24 m) (fun z hz => (fr_s hz fr_0 rfl rfl))
  · skip
    exact RP_w (u_kfl_rd_goal_24 m) (fun z hz => (fr_s hz fr_0 rfl rfl))
def kF_rd_selectCase : List Nat := [203, 205, 206, 207, 208, 209, 210, 211, 212, 221]
def kA_rd_selectCase : List Nat := [6, 7, 8, 9, 26, 29, 30, 31, 32, 33, 35, 36]
def F_kfl_rd_selectCase_92 : List Nat := [203, 205, 206, 207, 208, 209, 210, 211, 212, 221]
def A_kfl_rd_selectCase_92 : List Nat := [6, 7, 8, 9, 26, 29, 30, 33, 35, 36]
theorem u_kfl_rd_selectCase_92 (v1 : Int) (v2 : Int) (v4 : Int) (m : mR) : RP (kfl_rd_selectCase_92 v1 v2 v4 m) (fun z : Int × Int × mR => fr F_kfl_rd_selectCase_92 A_kfl_rd_selectCase_92 m z.2.2) := by
  unfold kfl_rd_selectCase_92
  refine RP_bnd (u_kf_tx_expect 58 m) (fun y1 h1 => ?_)
  have h2 : fr F_kfl_rd_selectCase_92 A_kfl_rd_selectCase_92 m y1.2.2 := (fr_s h1 fr_0 rfl rfl)
  refine RP_ite (fun h3 => ?_) (fun h3 => ?_)
  · skip
    refine RP_bnd (u_kf_rd_goal y1.2.2) (fun y4 h4 => ?_)
    have h5 : fr F_kfl_rd_selectCase_92 A_kfl_rd_selectCase_92 m y4.2.2 := (fr_s h4 h2 rfl rfl)
    refine RP_ite (fun h6 => ?_) (fun h6 => ?_)
    · skip
      refine RP_bnd (u_kf_tx_expect 59 (mO y4.2.2 [] [(30, upI (y4.2.2.2 30) v1 (cut (v2 + 1))), (33, upI (y4.2.2.2 33) v4 y4.2.1)])) (fun y7 h7 => ?_)
      have h8 : fr F_kfl_rd_selectCase_92 A_kfl_rd_selectCase_92 m y7.2.2 := (fr_s h7 (fr_m h5 rfl rfl) rfl rfl)
      refine RP_ite (fun h9 => ?_) (fun h9 => ?_)
      · skip
        exact RP_some h8
      · skip
        exact RP_some h8
    · skip
      exact RP_some h5
  · skip
    exact RP_some h2
def F_kfl_rd_selectCase_21 : List Nat := [203, 205, 206, 207, 208, 209, 210, 211, 212, 221]
def A_kfl_rd_selectCase_21 : List Nat := [6, 7, 8, 9, 26, 29, 30, 31, 32, 33, 35, 36]
theorem u_kfl_rd_selectCase_21 (v1 : Int) (v2 : Int) (v3 : Int) (m : mR) : RP (kfl_rd_selectCase_21 v1 v2 v3 m) (fun z : Int × Int × mR => fr F_kfl_rd_selectCase_21 A_kfl_rd_selectCase_21 m z.2.2) := by
  unfold kfl_rd_selectCase_21
  refine RP_bnd (u_kf_rd_fittingNumber v3 m) (fun y10 h1 => ?_)
  have h2 : fr F_kfl_rd_selectCase_21 A_kfl_rd_selectCase_21 m y10.2.2 := (fr_s h1 fr_0 rfl rfl)
  refine RP_ite (fun h3 => ?_) (fun h3 => ?_)
  · skip
    refine RP_bndT (fun y13 => ?_)
    refine RP_ite (fun h4 => ?_) (fun h4 => ?_)
    · skip
      refine RP_bnd (u_kf_tx_advance (mO y10.2.2 [] [(31, upI (y10.2.2.2 31) (cut ((cut (v1 * 8)) + v2)) y10.2.1), (32, upI (y10.2.2.2 32) (cut ((cut (v1 * 8)) + v2)) y13)])) (fun y17 h5 => ?_)
      have h6 : fr F_kfl_rd_selectCase_21 A_kfl_rd_selectCase_21 m y17.2.2 := (fr_s h5 (fr_m h2 rfl rfl) rfl rfl)
      refine RP_ite (fun h7 => ?_) (fun h7 => ?_)
      · skip
        refine RP_bnd (u_kf_rd_fittingNumber v3 y17.2.2) (fun y20 h8 => ?_)
        have h9 : fr F_kfl_rd_selectCase_21 A_kfl_rd_selectCase_21 m y20.2.2 := (fr_s h8 h6 rfl rfl)
        refine RP_ite (fun h10 => ?_) (fun h10 => ?_)
        · skip
          exact RP_w (u_kfl_rd_selectCase_92 v1 v2 (cut ((cut (v1 * 8)) + v2)) (mO y20.2.2 [] [(32, upI (y20.2.2.2 32) (cut ((cut (v1 * 8)) + v2)) y20.2.1)])) (fun z hz => (fr_s hz (fr_m h9 rfl rfl) rfl rfl))
        · skip
          exact RP_some h9
      · skip
        exact RP_some h6
    · skip
      exact RP_w (u_kfl_rd_selectCase_92 v1 v2 (cut ((cut (v1 * 8)) + v2)) (mO y10.2.2 [] [(31, upI (y10.2.2.2 31) (cut ((cut (v1 * 8)) + v2)) y10.2.1), (32, upI (y10.2.2.2 32) (cut ((cut (v1 * 8)) + v2)) y13)])) (fun z hz => (fr_s hz (fr_m h2 rfl rfl) rfl rfl))
  · skip
    exact RP_some h2
theorem u_kf_rd_selectCase (v1 : Int) (v2 : Int) (v3 : Int) (m : mR) : RP (kf_rd_selectCase v1 v2 v3 m) (fun z : Int × Int × mR => fr kF_rd_selectCase kA_rd_selectCase m z.2.2) := by
  unfold kf_rd_selectCase
  refine RP_ite (fun h1 => ?_) (fun h1 => ?_)
  · skip
    exact RP_w (u_kfl_rd_selectCase_21 v1 v2 v3 m) (fun z hz => (fr_s hz fr_0 rfl rfl))
  · skip
    refine RP_bnd (u_kf_tx_fail 4 (m.1 207) m) (fun y24 h2 => ?_)
    have h3 : fr kF_rd_selectCase kA_rd_selectCase m y24.2.2 := (fr_s h2 fr_0 rfl rfl)
    refine RP_ite (fun h4 => ?_) (fun h4 => ?_)
    · skip
      exact RP_w (u_kfl_rd_selectCase_21 v1 v2 v3 y24.2.2) (fun z hz => (fr_s hz h3 rfl rfl))
    · skip
      exact RP_some h3
def kF_rd_select : List Nat := [203, 205, 206, 207, 208, 209, 210, 211, 212, 213, 220, 221, 228, 229, 230, 231]
def kA_rd_select : List Nat := [6, 7, 8, 9, 18, 19, 20, 21, 22, 23, 24, 26, 28, 29, 30, 31, 32, 33, 34, 35, 36, 68, 69, 70]
def F_kfl_rd_select_99 : List Nat := [203, 205, 206, 207, 208, 209, 210, 211, 212, 221]
def A_kfl_rd_select_99 : List Nat := [6, 7, 8, 9, 26, 29, 30, 34, 35, 36]
theorem u_kfl_rd_select_99 (v1 : Int) (m : mR) : RP (kfl_rd_select_99 v1 m) (fun z : Int × Int × mR => fr F_kfl_rd_select_99 A_kfl_rd_select_99 m z.2.2) := by
  unfold kfl_rd_select_99
  refine RP_bnd (u_kf_tx_expect 308 m) (fun y2 h1 => ?_)
  have h2 : fr F_kfl_rd_select_99 A_kfl_rd_select_99 m y2.2.2 := (fr_s h1 fr_0 rfl rfl)
  refine RP_ite (fun h3 => ?_) (fun h3 => ?_)
  · skip
    refine RP_bnd (u_kf_tx_expect 58 y2.2.2) (fun y5 h4 => ?_)
    have h5 : fr F_kfl_rd_select_99 A_kfl_rd_select_99 m y5.2.2 := (fr_s h4 h2 rfl rfl)
    refine RP_ite (fun h6 => ?_) (fun h6 => ?_)
    · skip
      refine RP_bnd (u_kf_rd_goal y5.2.2) (fun y8 h7 => ?_)
      have h8 : fr F_kfl_rd_select_99 A_kfl_rd_select_99 m y8.2.2 := (fr_s h7 h5 rfl rfl)
      refine RP_ite (fun h9 => ?_) (fun h9 => ?_)
      · skip
        refine RP_bnd (u_kf_tx_expect 59 (mO y8.2.2 [] [(34, upI (y8.2.2.2 34) v1 y8.2.1)])) (fun y11 h10 => ?_)
        have h11 : fr F_kfl_rd_select_99 A_kfl_rd_select_99 m y11.2.2 := (fr_s h10 (fr_m h8 rfl rfl) rfl rfl)
        refine RP_ite (fun h12 => ?_) (fun h12 => ?_)
        · skip
          refine RP_bnd (u_kf_tx_expect 125 y11.2.2) (fun y14 h13 => ?_)
          have h14 : fr F_kfl_rd_select_99 A_kfl_rd_select_99 m y14.2.2 := (fr_s h13 h11 rfl rfl)
          refine RP_ite (fun h15 => ?_) (fun h15 => ?_)
          · skip
            exact RP_some h14
          · skip
            exact RP_some h14
        · skip
          exact RP_some h11
      · skip
        exact RP_some h8
    · skip
      exact RP_some h5
  · skip
    exact RP_some h2
def F_kfb_rd_select_56 : List Nat := [203, 205, 206, 207, 208, 209, 210, 211, 212, 221]
def A_kfb_rd_select_56 : List Nat := [6, 7, 8, 9, 26, 29, 30, 31, 32, 33, 35, 36]
theorem u_kfb_rd_select_56 (v1 : Int) (v2 : Int) (s : Int × mR) : RP (kfb_rd_select_56 v1 v2 s) (sel (fun z : (Int × mR) => fr F_kfb_rd_select_56 A_kfb_rd_select_56 s.2 z.2) (sel (fun z : (mR) => fr F_kfb_rd_select_56 A_kfb_rd_select_56 s.2 z) (fun z : Int × mR => fr F_kfb_rd_select_56 A_kfb_rd_select_56 s.2 z.2))) := by
  unfold kfb_rd_select_56
  refine RP_ite (fun h1 => ?_) (fun h1 => ?_)
  · skip
    exact RP_some fr_0
  · skip
    refine RP_ite (fun h2 => ?_) (fun h2 => ?_)
    · skip
      refine RP_bnd (u_kf_rd_selectCase v1 s.1 ((s.2.2 22) v2) s.2) (fun y20 h3 => ?_)
      have h4 : fr F_kfb_rd_select_56 A_kfb_rd_select_56 s.2 y20.2.2 := (fr_s h3 fr_0 rfl rfl)
      refine RP_ite (fun h5 => ?_) (fun h5 => ?_)
      · skip
        exact RP_some h4
      · skip
        exact RP_some h4
    · skip
      exact RP_some fr_0
theorem uw_kfb_rd_select_56 (v1 : Int) (v2 : Int) (s : Int × mR) : RP (whl (kfb_rd_select_56 v1 v2) s) (sel (fun z : ((mR)) => fr F_kfb_rd_select_56 A_kfb_rd_select_56 s.2 z) (fun z : Int × mR => fr F_kfb_rd_select_56 A_kfb_rd_select_56 s.2 z.2)) := RP_whl (I := fun q : Int × mR => fr F_kfb_rd_select_56 A_kfb_rd_select_56 s.2 q.2) (fun q hq => RP_w (u_kfb_rd_select_56 v1 v2 q) (sl_w (fun z hz => (fr_s hz hq rfl rfl)) (sl_w (fun z hz => (fr_s hz hq rfl rfl)) (fun z hz => (fr_s hz hq rfl rfl))))) fr_0
theorem u_kf_rd_select (v1 : Int) (m : mR) : RP (kf_rd_select v1 m) (fun z : Int × Int × mR => fr kF_rd_select kA_rd_select m z.2.2) := by
  unfold kf_rd_select
  refine RP_bnd (u_kf_tx_advance m) (fun y23 h1 => ?_)
  have h2 : fr kF_rd_select kA_rd_select m y23.2.2 := (fr_s h1 fr_0 rfl rfl)
  refine RP_ite (fun h3 => ?_) (fun h3 => ?_)
  · skip
    refine RP_bnd (u_kf_fm_whole (-1) (mO y23.2.2 [] [(28, upI (y23.2.2.2 28) v1 (y23.2.2.1 220))])) (fun y26 h4 => ?_)
    have h5 : fr kF_rd_select kA_rd_select m y26.2.2 := (fr_s h4 (fr_m h2 rfl rfl) rfl rfl)
    refine RP_ite (fun h6 => ?_) (fun h6 => ?_)
    · skip
      refine RP_bnd (u_kf_tx_expect 123 (mO y26.2.2 [] [(29, upI (y26.2.2.2 29) v1 y26.2.1)])) (fun y29 h7 => ?_)
      have h8 : fr kF_rd_select kA_rd_select m y29.2.2 := (fr_s h7 (fr_m h5 rfl rfl) rfl rfl)
      refine RP_ite (fun h9 => ?_) (fun h9 => ?_)
      · skip
        refine RP_bnd (uw_kfb_rd_select_56 v1 y26.2.1 (0, y29.2.2)) (RP_sl (fun e32 h10 => ?_) (fun e35 h12 => ?_))
        · skip
          have h11 : fr kF_rd_select kA_rd_select m e32 := (fr_s h10 h8 rfl rfl)
          exact RP_w (u_kfl_rd_select_99 v1 e32) (fun z hz => (fr_s hz h11 rfl rfl))
        · skip
          have h13 : fr kF_rd_select kA_rd_select m e35.2 := (fr_s h12 h8 rfl rfl)
          exact RP_some h13
      · skip
        exact RP_some h8
    · skip
      exact RP_some h5
  · skip
    exact RP_some h2
def kF_rd_extract : List Nat := [205, 206, 207, 208, 209, 210, 211, 212]
def kA_rd_extract : List Nat := [26, 27]
def F_kfl_rd_extract_21 : List Nat := [205, 206, 207, 208, 209, 210, 211, 212]
def A_kfl_rd_extract_21 : List Nat := [26, 27]
theorem u_kfl_rd_extract_21 (v1 : Int) (v2 : Int) (m : mR) : RP (kfl_rd_extract_21 v1 v2 m) (fun z : Int × Int × mR => fr F_kfl_rd_extract_21 A_kfl_rd_extract_21 m z.2.2) := by
  unfold kfl_rd_extract_21
  refine RP_bnd (u_kf_tx_advance m) (fun y1 h1 => ?_)
  have h2 : fr F_kfl_rd_extract_21 A_kfl_rd_extract_21 m y1.2.2 := (fr_s h1 fr_0 rfl rfl)
  refine RP_ite (fun h3 => ?_) (fun h3 => ?_)
  · skip
    refine RP_bnd (u_kf_tx_known 301 y1.2.2) (fun y4 h4 => ?_)
    have h5 : fr F_kfl_rd_extract_21 A_kfl_rd_extract_21 m y4.2.2 := (fr_s h4 h2 rfl rfl)
    refine RP_ite (fun h6 => ?_) (fun h6 => ?_)
    · skip
      refine RP_bnd (u_kf_tx_expect 59 (mO y4.2.2 [] [(26, upI (y4.2.2.2 26) v1 (cut (v2 + 1))), (27, upI (y4.2.2.2 27) (cut ((cut (v1 * 6)) + v2)) y4.2.1)])) (fun y7 h7 => ?_)
      have h8 : fr F_kfl_rd_extract_21 A_kfl_rd_extract_21 m y7.2.2 := (fr_s h7 (fr_m h5 rfl rfl) rfl rfl)
      refine RP_ite (fun h9 => ?_) (fun h9 => ?_)
      · skip
        exact RP_some h8
      · skip
        exact RP_some h8
    · skip
      exact RP_some h5
  · skip
    exact RP_some h2
theorem u_kf_rd_extract (v1 : Int) (v2 : Int) (m : mR) : RP (kf_rd_extract v1 v2 m) (fun z : Int × Int × mR => fr kF_rd_extract kA_rd_extract m z.2.2) := by
  unfold kf_rd_extract
  refine RP_ite (fun h1 => ?_) (fun h1 => ?_)
  · skip
    exact RP_w (u_kfl_rd_extract_21 v1 v2 m) (fun z hz => (fr_s hz fr_0 rfl rfl))
  · skip
    refine RP_bnd (u_kf_tx_fail 4 (m.1 207) m) (fun y11 h2 => ?_)
    have h3 : fr kF_rd_extract kA_rd_extract m y11.2.2 := (fr_s h2 fr_0 rfl rfl)
    refine RP_ite (fun h4 => ?_) (fun h4 => ?_)
    · skip
      exact RP_w (u_kfl_rd_extract_21 v1 v2 y11.2.2) (fun z hz => (fr_s hz h3 rfl rfl))
    · skip
      exact RP_some h3
def kF_rd_state : List Nat := [203, 205, 206, 207, 208, 209, 210, 211, 212, 213, 220, 221, 222, 228, 229, 230, 231]
def kA_rd_state : List Nat := [6, 7, 8, 9, 18, 19, 20, 21, 22, 23, 24, 26, 27, 28, 29, 30, 31, 32, 33, 34, 35, 36, 37, 68, 69, 70]
def F_kfl_rd_state_208 : List Nat := [205, 206, 207, 208, 209, 210, 211, 212]
def A_kfl_rd_state_208 : List Nat := []
theorem u_kfl_rd_state_208 (m : mR) : RP (kfl_rd_state_208 m) (fun z : Int × Int × mR => fr F_kfl_rd_state_208 A_kfl_rd_state_208 m z.2.2) := by
  unfold kfl_rd_state_208
  refine RP_bnd (u_kf_tx_expect 125 m) (fun y2 h1 => ?_)
  have h2 : fr F_kfl_rd_state_208 A_kfl_rd_state_208 m y2.2.2 := (fr_s h1 fr_0 rfl rfl)
  refine RP_ite (fun h3 => ?_) (fun h3 => ?_)
  · skip
    exact RP_some h2
  · skip
    exact RP_some h2
def F_kfl_rd_state_155 : List Nat := [203, 205, 206, 207, 208, 209, 210, 211, 212, 213, 220, 221, 228, 229, 230, 231]
def A_kfl_rd_state_155 : List Nat := [6, 7, 8, 9, 18, 19, 20, 21, 22, 23, 24, 26, 28, 29, 30, 31, 32, 33, 34, 35, 36, 68, 69, 70]
theorem u_kfl_rd_state_155 (v2 : Int) (m : mR) : RP (kfl_rd_state_155 v2 m) (fun z : Int × Int × mR => fr F_kfl_rd_state_155 A_kfl_rd_state_155 m z.2.2) := by
  unfold kfl_rd_state_155
  refine RP_ite (fun h1 => ?_) (fun h1 => ?_)
  · skip
    refine RP_bnd (u_kf_rd_select v2 m) (fun y15 h2 => ?_)
    have h3 : fr F_kfl_rd_state_155 A_kfl_rd_state_155 m y15.2.2 := (fr_s h2 fr_0 rfl rfl)
    refine RP_ite (fun h4 => ?_) (fun h4 => ?_)
    · skip
      exact RP_w (u_kfl_rd_state_208 y15.2.2) (fun z hz => (fr_s hz h3 rfl rfl))
    · skip
      exact RP_some h3
  · skip
    refine RP_bnd (u_kf_tx_expect 306 m) (fun y6 h5 => ?_)
    have h6 : fr F_kfl_rd_state_155 A_kfl_rd_state_155 m y6.2.2 := (fr_s h5 fr_0 rfl rfl)
    refine RP_ite (fun h7 => ?_) (fun h7 => ?_)
    · skip
      refine RP_bnd (u_kf_rd_goal y6.2.2) (fun y9 h8 => ?_)
      have h9 : fr F_kfl_rd_state_155 A_kfl_rd_state_155 m y9.2.2 := (fr_s h8 h6 rfl rfl)
      refine RP_ite (fun h10 => ?_) (fun h10 => ?_)
      · skip
        refine RP_bnd (u_kf_tx_expect 59 (mO y9.2.2 [] [(34, upI (y9.2.2.2 34) v2 y9.2.1)])) (fun y12 h11 => ?_)
        have h12 : fr F_kfl_rd_state_155 A_kfl_rd_state_155 m y12.2.2 := (fr_s h11 (fr_m h9 rfl rfl) rfl rfl)
        refine RP_ite (fun h13 => ?_) (fun h13 => ?_)
        · skip
          exact RP_w (u_kfl_rd_state_208 y12.2.2) (fun z hz => (fr_s hz h12 rfl rfl))
        · skip
          exact RP_some h12
      · skip
        exact RP_some h9
    · skip
      exact RP_some h6
def F_kfb_rd_state_124 : List Nat := [205, 206, 207, 208, 209, 210, 211, 212]
def A_kfb_rd_state_124 : List Nat := [26, 27]
theorem u_kfb_rd_state_124 (v2 : Int) (s : Int × mR) : RP (kfb_rd_state_124 v2 s) (sel (fun z : (Int × mR) => fr F_kfb_rd_state_124 A_kfb_rd_state_124 s.2 z.2) (sel (fun z : (mR) => fr F_kfb_rd_state_124 A_kfb_rd_state_124 s.2 z) (fun z : Int × mR => fr F_kfb_rd_state_124 A_kfb_rd_state_124 s.2 z.2))) := by
  unfold kfb_rd_state_124
  refine RP_ite (fun h1 => ?_) (fun h1 => ?_)
  · skip
    exact RP_some fr_0
  · skip
    refine RP_ite (fun h2 => ?_) (fun h2 => ?_)
    · skip
      refine RP_bnd (u_kf_rd_extract v2 s.1 s.2) (fun y21 h3 => ?_)
      have h4 : fr F_kfb_rd_state_124 A_kfb_rd_state_124 s.2 y21.2.2 := (fr_s h3 fr_0 rfl rfl)
      refine RP_ite (fun h5 => ?_) (fun h5 => ?_)
      · skip
        exact RP_some h4
      · skip
        exact RP_some h4
    · skip
      exact RP_some fr_0
theorem uw_kfb_rd_state_124 (v2 : Int) (s : Int × mR) : RP (whl (kfb_rd_state_124 v2) s) (sel (fun z : ((mR)) => fr F_kfb_rd_state_124 A_kfb_rd_state_124 s.2 z) (fun z : Int × mR => fr F_kfb_rd_state_124 A_kfb_rd_state_124 s.2 z.2)) := RP_whl (I := fun q : Int × mR => fr F_kfb_rd_state_124 A_kfb_rd_state_124 s.2 q.2) (fun q hq => RP_w (u_kfb_rd_state_124 v2 q) (sl_w (fun z hz => (fr_s hz hq rfl rfl)) (sl_w (fun z hz => (fr_s hz hq rfl rfl)) (fun z hz => (fr_s hz hq rfl rfl))))) fr_0
def F_kfl_rd_state_104 : List Nat := [203, 205, 206, 207, 208, 209, 210, 211, 212, 213, 220, 221, 222, 228, 229, 230, 231]
def A_kfl_rd_state_104 : List Nat := [6, 7, 8, 9, 18, 19, 20, 21, 22, 23, 24, 26, 27, 28, 29, 30, 31, 32, 33, 34, 35, 36, 37, 68, 69, 70]
theorem u_kfl_rd_state_104 (v1 : Int) (v2 : Int) (m : mR) : RP (kfl_rd_state_104 v1 v2 m) (fun z : Int × Int × mR => fr F_kfl_rd_state_104 A_kfl_rd_state_104 m z.2.2) := by
  unfold kfl_rd_state_104
  refine RP_bnd (u_kf_ss_stand v2 v1 m) (fun y24 h1 => ?_)
  have h2 : fr F_kfl_rd_state_104 A_kfl_rd_state_104 m y24.2 := (fr_s h1 fr_0 rfl rfl)
  refine RP_bnd (u_kf_tx_expect 123 y24.2) (fun y27 h3 => ?_)
  have h4 : fr F_kfl_rd_state_104 A_kfl_rd_state_104 m y27.2.2 := (fr_s h3 h2 rfl rfl)
  refine RP_ite (fun h5 => ?_) (fun h5 => ?_)
  · skip
    refine RP_bnd (uw_kfb_rd_state_124 v2 (0, y27.2.2)) (RP_sl (fun e30 h6 => ?_) (fun e33 h8 => ?_))
    · skip
      have h7 : fr F_kfl_rd_state_104 A_kfl_rd_state_104 m e30 := (fr_s h6 h4 rfl rfl)
      exact RP_w (u_kfl_rd_state_155 v2 e30) (fun z hz => (fr_s hz h7 rfl rfl))
    · skip
      have h9 : fr F_kfl_rd_state_104 A_kfl_rd_state_104 m e33.2 := (fr_s h8 h4 rfl rfl)
      exact RP_some h9
  · skip
    exact RP_some h4
def F_kfl_rd_state_76 : List Nat := [203, 205, 206, 207, 208, 209, 210, 211, 212, 213, 220, 221, 222, 228, 229, 230, 231]
def A_kfl_rd_state_76 : List Nat := [6, 7, 8, 9, 18, 19, 20, 21, 22, 23, 24, 26, 27, 28, 29, 30, 31, 32, 33, 34, 35, 36, 37, 68, 69, 70]
theorem u_kfl_rd_state_76 (v1 : Int) (m : mR) : RP (kfl_rd_state_76 v1 m) (fun z : Int × Int × mR => fr F_kfl_rd_state_76 A_kfl_rd_state_76 m z.2.2) := by
  unfold kfl_rd_state_76
  refine RP_bnd (u_kf_tx_makeNew 304 (m.1 221) 16 m) (fun y35 h1 => ?_)
  have h2 : fr F_kfl_rd_state_76 A_kfl_rd_state_76 m y35.2.2 := (fr_s h1 fr_0 rfl rfl)
  refine RP_ite (fun h3 => ?_) (fun h3 => ?_)
  · skip
    refine RP_bnd (u_kf_ss_add v1 y35.2.2) (fun y38 h4 => ?_)
    have h5 : fr F_kfl_rd_state_76 A_kfl_rd_state_76 m y38.2 := (fr_s h4 h2 rfl rfl)
    exact RP_w (u_kfl_rd_state_104 v1 y38.1 y38.2) (fun z hz => (fr_s hz h5 rfl rfl))
  · skip
    exact RP_some h2
def F_kfl_rd_state_42 : List Nat := [203, 205, 206, 207, 208, 209, 210, 211, 212, 213, 220, 221, 222, 228, 229, 230, 231]
def A_kfl_rd_state_42 : List Nat := [6, 7, 8, 9, 18, 19, 20, 21, 22, 23, 24, 26, 27, 28, 29, 30, 31, 32, 33, 34, 35, 36, 37, 68, 69, 70]
theorem u_kfl_rd_state_42 (v1 : Int) (u0 : Int) (m : mR) : RP (kfl_rd_state_42 v1 u0 m) (fun z : Int × Int × mR => fr F_kfl_rd_state_42 A_kfl_rd_state_42 m z.2.2) := by
  unfold kfl_rd_state_42
  refine RP_ite (fun h1 => ?_) (fun h1 => ?_)
  · skip
    exact RP_w (u_kfl_rd_state_76 v1 m) (fun z hz => (fr_s hz fr_0 rfl rfl))
  · skip
    refine RP_ite (fun h2 => ?_) (fun h2 => ?_)
    · skip
      exact RP_w (u_kfl_rd_state_76 v1 m) (fun z hz => (fr_s hz fr_0 rfl rfl))
    · skip
      refine RP_ite (fun h3 => ?_) (fun h3 => ?_)
      · skip
        refine RP_bnd (u_kf_tx_advance m) (fun y44 h4 => ?_)
        have h5 : fr F_kfl_rd_state_42 A_kfl_rd_state_42 m y44.2.2 := (fr_s h4 fr_0 rfl rfl)
        refine RP_ite (fun h6 => ?_) (fun h6 => ?_)
        · skip
          exact RP_w (u_kfl_rd_state_104 v1 u0 y44.2.2) (fun z hz => (fr_s hz h5 rfl rfl))
        · skip
          exact RP_some h5
      · skip
        exact RP_w (u_kfl_rd_state_76 v1 m) (fun z hz => (fr_s hz fr_0 rfl rfl))
theorem u_kf_rd_state (m : mR) : RP (kf_rd_state m) (fun z : Int × Int × mR => fr kF_rd_state kA_rd_state m z.2.2) := by
  unfold kf_rd_state
  refine RP_bnd (u_kf_tx_advance m) (fun y47 h1 => ?_)
  have h2 : fr kF_rd_state kA_rd_state m y47.2.2 := (fr_s h1 fr_0 rfl rfl)
  refine RP_ite (fun h3 => ?_) (fun h3 => ?_)
  · skip
    refine RP_ite (fun h4 => ?_) (fun h4 => ?_)
    · skip
      refine RP_bndT (fun y51 => ?_)
      exact RP_w (u_kfl_rd_state_42 (y47.2.2.1 207) y51 y47.2.2) (fun z hz => (fr_s hz h2 rfl rfl))
    · skip
      exact RP_w (u_kfl_rd_state_42 (y47.2.2.1 207) (-1) y47.2.2) (fun z hz => (fr_s hz h2 rfl rfl))
  · skip
    exact RP_some h2
def kF_rd_array : List Nat := [203, 205, 206, 207, 208, 209, 210, 211, 212, 217]
def kA_rd_array : List Nat := [6, 7, 8, 9, 15, 16]
theorem u_kf_rd_array (m : mR) : RP (kf_rd_array m) (fun z : Int × Int × mR => fr kF_rd_array kA_rd_array m z.2.2) := by
  unfold kf_rd_array
  refine RP_bnd (u_kf_tx_advance m) (fun y1 h1 => ?_)
  have h2 : fr kF_rd_array kA_rd_array m y1.2.2 := (fr_s h1 fr_0 rfl rfl)
  refine RP_ite (fun h3 => ?_) (fun h3 => ?_)
  · skip
    refine RP_bnd (u_kf_tx_makeNew 303 (y1.2.2.1 217) 8 y1.2.2) (fun y4 h4 => ?_)
    have h5 : fr kF_rd_array kA_rd_array m y4.2.2 := (fr_s h4 h2 rfl rfl)
    refine RP_ite (fun h6 => ?_) (fun h6 => ?_)
    · skip
      refine RP_bnd (u_kf_tx_expect 58 (mO y4.2.2 [(217, cut ((y4.2.2.1 217) + 1))] [])) (fun y7 h7 => ?_)
      have h8 : fr kF_rd_array kA_rd_array m y7.2.2 := (fr_s h7 (fr_m h5 rfl rfl) rfl rfl)
      refine RP_ite (fun h9 => ?_) (fun h9 => ?_)
      · skip
        refine RP_bnd (u_kf_tx_within 1 64 y7.2.2) (fun y10 h10 => ?_)
        have h11 : fr kF_rd_array kA_rd_array m y10.2.2 := (fr_s h10 h8 rfl rfl)
        refine RP_ite (fun h12 => ?_) (fun h12 => ?_)
        · skip
          refine RP_bnd (u_kf_tx_expect 91 (mO y10.2.2 [] [(15, upI (y10.2.2.2 15) (y1.2.2.1 217) y10.2.1)])) (fun y13 h13 => ?_)
          have h14 : fr kF_rd_array kA_rd_array m y13.2.2 := (fr_s h13 (fr_m h11 rfl rfl) rfl rfl)
          refine RP_ite (fun h15 => ?_) (fun h15 => ?_)
          · skip
            refine RP_bnd (u_kf_tx_within 1 64 y13.2.2) (fun y16 h16 => ?_)
            have h17 : fr kF_rd_array kA_rd_array m y16.2.2 := (fr_s h16 h14 rfl rfl)
            refine RP_ite (fun h18 => ?_) (fun h18 => ?_)
            · skip
              refine RP_bnd (u_kf_tx_expect 93 (mO y16.2.2 [] [(16, upI (y16.2.2.2 16) (y1.2.2.1 217) y16.2.1)])) (fun y19 h19 => ?_)
              have h20 : fr kF_rd_array kA_rd_array m y19.2.2 := (fr_s h19 (fr_m h17 rfl rfl) rfl rfl)
              refine RP_ite (fun h21 => ?_) (fun h21 => ?_)
              · skip
                refine RP_bnd (u_kf_tx_expect 59 y19.2.2) (fun y22 h22 => ?_)
                have h23 : fr kF_rd_array kA_rd_array m y22.2.2 := (fr_s h22 h20 rfl rfl)
                refine RP_ite (fun h24 => ?_) (fun h24 => ?_)
                · skip
                  exact RP_some h23
                · skip
                  exact RP_some h23
              · skip
                exact RP_some h20
            · skip
              exact RP_some h17
          · skip
            exact RP_some h14
        · skip
          exact RP_some h11
      · skip
        exact RP_some h8
    · skip
      exact RP_some h5
  · skip
    exact RP_some h2
def kF_rd_meta : List Nat := [203, 205, 206, 207, 208, 209, 210, 211, 212, 216]
def kA_rd_meta : List Nat := [6, 7, 8, 9, 14]
theorem u_kf_rd_meta (m : mR) : RP (kf_rd_meta m) (fun z : Int × Int × mR => fr kF_rd_meta kA_rd_meta m z.2.2) := by
  unfold kf_rd_meta
  refine RP_bnd (u_kf_tx_advance m) (fun y1 h1 => ?_)
  have h2 : fr kF_rd_meta kA_rd_meta m y1.2.2 := (fr_s h1 fr_0 rfl rfl)
  refine RP_ite (fun h3 => ?_) (fun h3 => ?_)
  · skip
    refine RP_bnd (u_kf_tx_makeNew 302 (y1.2.2.1 216) 16 y1.2.2) (fun y4 h4 => ?_)
    have h5 : fr kF_rd_meta kA_rd_meta m y4.2.2 := (fr_s h4 h2 rfl rfl)
    refine RP_ite (fun h6 => ?_) (fun h6 => ?_)
    · skip
      refine RP_bnd (u_kf_tx_expect 58 (mO y4.2.2 [(216, cut ((y4.2.2.1 216) + 1))] [])) (fun y7 h7 => ?_)
      have h8 : fr kF_rd_meta kA_rd_meta m y7.2.2 := (fr_s h7 (fr_m h5 rfl rfl) rfl rfl)
      refine RP_ite (fun h9 => ?_) (fun h9 => ?_)
      · skip
        refine RP_bnd (u_kf_tx_within 1 64 y7.2.2) (fun y10 h10 => ?_)
        have h11 : fr kF_rd_meta kA_rd_meta m y10.2.2 := (fr_s h10 h8 rfl rfl)
        refine RP_ite (fun h12 => ?_) (fun h12 => ?_)
        · skip
          refine RP_bnd (u_kf_tx_expect 59 (mO y10.2.2 [] [(14, upI (y10.2.2.2 14) (y1.2.2.1 216) y10.2.1)])) (fun y13 h13 => ?_)
          have h14 : fr kF_rd_meta kA_rd_meta m y13.2.2 := (fr_s h13 (fr_m h11 rfl rfl) rfl rfl)
          refine RP_ite (fun h15 => ?_) (fun h15 => ?_)
          · skip
            exact RP_some h14
          · skip
            exact RP_some h14
        · skip
          exact RP_some h11
      · skip
        exact RP_some h8
    · skip
      exact RP_some h5
  · skip
    exact RP_some h2
def kF_rd_instance : List Nat := [203, 205, 206, 207, 208, 209, 210, 211, 212, 215]
def kA_rd_instance : List Nat := [6, 7, 8, 9, 13]
theorem u_kf_rd_instance (m : mR) : RP (kf_rd_instance m) (fun z : Int × Int × mR => fr kF_rd_instance kA_rd_instance m z.2.2) := by
  unfold kf_rd_instance
  refine RP_bnd (u_kf_tx_advance m) (fun y1 h1 => ?_)
  have h2 : fr kF_rd_instance kA_rd_instance m y1.2.2 := (fr_s h1 fr_0 rfl rfl)
  refine RP_ite (fun h3 => ?_) (fun h3 => ?_)
  · skip
    refine RP_bnd (u_kf_tx_makeNew 301 (y1.2.2.1 215) 12 y1.2.2) (fun y4 h4 => ?_)
    have h5 : fr kF_rd_instance kA_rd_instance m y4.2.2 := (fr_s h4 h2 rfl rfl)
    refine RP_ite (fun h6 => ?_) (fun h6 => ?_)
    · skip
      refine RP_bnd (u_kf_tx_expect 58 (mO y4.2.2 [(215, cut ((y4.2.2.1 215) + 1))] [])) (fun y7 h7 => ?_)
      have h8 : fr kF_rd_instance kA_rd_instance m y7.2.2 := (fr_s h7 (fr_m h5 rfl rfl) rfl rfl)
      refine RP_ite (fun h9 => ?_) (fun h9 => ?_)
      · skip
        refine RP_bnd (u_kf_tx_known 300 y7.2.2) (fun y10 h10 => ?_)
        have h11 : fr kF_rd_instance kA_rd_instance m y10.2.2 := (fr_s h10 h8 rfl rfl)
        refine RP_ite (fun h12 => ?_) (fun h12 => ?_)
        · skip
          refine RP_bnd (u_kf_tx_expect 59 (mO y10.2.2 [] [(13, upI (y10.2.2.2 13) (y1.2.2.1 215) y10.2.1)])) (fun y13 h13 => ?_)
          have h14 : fr kF_rd_instance kA_rd_instance m y13.2.2 := (fr_s h13 (fr_m h11 rfl rfl) rfl rfl)
          refine RP_ite (fun h15 => ?_) (fun h15 => ?_)
          · skip
            exact RP_some h14
          · skip
            exact RP_some h14
        · skip
          exact RP_some h11
      · skip
        exact RP_some h8
    · skip
      exact RP_some h5
  · skip
    exact RP_some h2
def kF_rd_field : List Nat := [205, 206, 207, 208, 209, 210, 211, 212]
def kA_rd_field : List Nat := [10, 11, 12]
def F_kfl_rd_field_82 : List Nat := [205, 206, 207, 208, 209, 210, 211, 212]
def A_kfl_rd_field_82 : List Nat := [10, 11, 12]
theorem u_kfl_rd_field_82 (v1 : Int) (v2 : Int) (m : mR) : RP (kfl_rd_field_82 v1 v2 m) (fun z : Int × Int × mR => fr F_kfl_rd_field_82 A_kfl_rd_field_82 m z.2.2) := by
  unfold kfl_rd_field_82
  refine RP_bnd (u_kf_tx_advance (mO m [] [(11, upI (m.2 11) (cut ((cut (v1 * 16)) + v2)) (m.1 209)), (12, upI (m.2 12) (cut ((cut (v1 * 16)) + v2)) (m.1 210))])) (fun y1 h1 => ?_)
  have h2 : fr F_kfl_rd_field_82 A_kfl_rd_field_82 m y1.2.2 := (fr_s h1 (fr_m fr_0 rfl rfl) rfl rfl)
  refine RP_ite (fun h3 => ?_) (fun h3 => ?_)
  · skip
    refine RP_bnd (u_kf_tx_expect 58 y1.2.2) (fun y4 h4 => ?_)
    have h5 : fr F_kfl_rd_field_82 A_kfl_rd_field_82 m y4.2.2 := (fr_s h4 h2 rfl rfl)
    refine RP_ite (fun h6 => ?_) (fun h6 => ?_)
    · skip
      refine RP_bnd (u_kf_tx_within 1 64 y4.2.2) (fun y7 h7 => ?_)
      have h8 : fr F_kfl_rd_field_82 A_kfl_rd_field_82 m y7.2.2 := (fr_s h7 h5 rfl rfl)
      refine RP_ite (fun h9 => ?_) (fun h9 => ?_)
      · skip
        refine RP_bnd (u_kf_tx_expect 59 (mO y7.2.2 [] [(10, upI (y7.2.2.2 10) (cut ((cut (v1 * 16)) + v2)) y7.2.1)])) (fun y10 h10 => ?_)
        have h11 : fr F_kfl_rd_field_82 A_kfl_rd_field_82 m y10.2.2 := (fr_s h10 (fr_m h8 rfl rfl) rfl rfl)
        refine RP_ite (fun h12 => ?_) (fun h12 => ?_)
        · skip
          exact RP_some h11
        · skip
          exact RP_some h11
      · skip
        exact RP_some h8
    · skip
      exact RP_some h5
  · skip
    exact RP_some h2
def F_kfl_rd_field_41 : List Nat := [205, 206, 207, 208, 209, 210, 211, 212]
def A_kfl_rd_field_41 : List Nat := [10, 11, 12]
theorem u_kfl_rd_field_41 (v1 : Int) (v2 : Int) (m : mR) : RP (kfl_rd_field_41 v1 v2 m) (fun z : Int × Int × mR => fr F_kfl_rd_field_41 A_kfl_rd_field_41 m z.2.2) := by
  unfold kfl_rd_field_41
  refine RP_bndT (fun y13 => ?_)
  refine RP_ite (fun h1 => ?_) (fun h1 => ?_)
  · skip
    exact RP_w (u_kfl_rd_field_82 v1 v2 m) (fun z hz => (fr_s hz fr_0 rfl rfl))
  · skip
    refine RP_bnd (u_kf_tx_fail 3 (m.1 207) m) (fun y17 h2 => ?_)
    have h3 : fr F_kfl_rd_field_41 A_kfl_rd_field_41 m y17.2.2 := (fr_s h2 fr_0 rfl rfl)
    refine RP_ite (fun h4 => ?_) (fun h4 => ?_)
    · skip
      exact RP_w (u_kfl_rd_field_82 v1 v2 y17.2.2) (fun z hz => (fr_s hz h3 rfl rfl))
    · skip
      exact RP_some h3
def F_kfl_rd_field_20 : List Nat := [205, 206, 207, 208, 209, 210, 211, 212]
def A_kfl_rd_field_20 : List Nat := [10, 11, 12]
theorem u_kfl_rd_field_20 (v1 : Int) (v2 : Int) (m : mR) : RP (kfl_rd_field_20 v1 v2 m) (fun z : Int × Int × mR => fr F_kfl_rd_field_20 A_kfl_rd_field_20 m z.2.2) := by
  unfold kfl_rd_field_20
  refine RP_ite (fun h1 => ?_) (fun h1 => ?_)
  · skip
    exact RP_w (u_kfl_rd_field_41 v1 v2 m) (fun z hz => (fr_s hz fr_0 rfl rfl))
  · skip
    refine RP_bnd (u_kf_tx_fail 4 (m.1 207) m) (fun y21 h2 => ?_)
    have h3 : fr F_kfl_rd_field_20 A_kfl_rd_field_20 m y21.2.2 := (fr_s h2 fr_0 rfl rfl)
    refine RP_ite (fun h4 => ?_) (fun h4 => ?_)
    · skip
      exact RP_w (u_kfl_rd_field_41 v1 v2 y21.2.2) (fun z hz => (fr_s hz h3 rfl rfl))
    · skip
      exact RP_some h3
theorem u_kf_rd_field (v1 : Int) (v2 : Int) (m : mR) : RP (kf_rd_field v1 v2 m) (fun z : Int × Int × mR => fr kF_rd_field kA_rd_field m z.2.2) := by
  unfold kf_rd_field
  refine RP_ite (fun h1 => ?_) (fun h1 => ?_)
  · skip
    exact RP_w (u_kfl_rd_field_20 v1 v2 m) (fun z hz => (fr_s hz fr_0 rfl rfl))
  · skip
    refine RP_bnd (u_kf_tx_refuse m) (fun y25 h2 => ?_)
    have h3 : fr kF_rd_field kA_rd_field m y25.2.2 := (fr_s h2 fr_0 rfl rfl)
    refine RP_ite (fun h4 => ?_) (fun h4 => ?_)
    · skip
      exact RP_w (u_kfl_rd_field_20 v1 v2 y25.2.2) (fun z hz => (fr_s hz h3 rfl rfl))
    · skip
      exact RP_some h3
def kF_rd_header : List Nat := [203, 205, 206, 207, 208, 209, 210, 211, 212, 214]
def kA_rd_header : List Nat := [6, 7, 8, 9, 10, 11, 12]
def F_kfl_rd_header_147 : List Nat := [205, 206, 207, 208, 209, 210, 211, 212]
def A_kfl_rd_header_147 : List Nat := []
theorem u_kfl_rd_header_147 (m : mR) : RP (kfl_rd_header_147 m) (fun z : Int × Int × mR => fr F_kfl_rd_header_147 A_kfl_rd_header_147 m z.2.2) := by
  unfold kfl_rd_header_147
  refine RP_bnd (u_kf_tx_advance m) (fun y2 h1 => ?_)
  have h2 : fr F_kfl_rd_header_147 A_kfl_rd_header_147 m y2.2.2 := (fr_s h1 fr_0 rfl rfl)
  refine RP_ite (fun h3 => ?_) (fun h3 => ?_)
  · skip
    exact RP_some h2
  · skip
    exact RP_some h2
def F_kfl_rd_header_137 : List Nat := [205, 206, 207, 208, 209, 210, 211, 212]
def A_kfl_rd_header_137 : List Nat := []
theorem u_kfl_rd_header_137 (v2 : Int) (m : mR) : RP (kfl_rd_header_137 v2 m) (fun z : Int × Int × mR => fr F_kfl_rd_header_137 A_kfl_rd_header_137 m z.2.2) := by
  unfold kfl_rd_header_137
  refine RP_bnd (u_kf_tx_fail 8 v2 m) (fun y5 h1 => ?_)
  have h2 : fr F_kfl_rd_header_137 A_kfl_rd_header_137 m y5.2.2 := (fr_s h1 fr_0 rfl rfl)
  refine RP_ite (fun h3 => ?_) (fun h3 => ?_)
  · skip
    exact RP_w (u_kfl_rd_header_147 y5.2.2) (fun z hz => (fr_s hz h2 rfl rfl))
  · skip
    exact RP_some h2
def F_kfl_rd_header_114 : List Nat := [205, 206, 207, 208, 209, 210, 211, 212]
def A_kfl_rd_header_114 : List Nat := []
theorem u_kfl_rd_header_114 (v1 : Int) (v2 : Int) (m : mR) : RP (kfl_rd_header_114 v1 v2 m) (fun z : Int × Int × mR => fr F_kfl_rd_header_114 A_kfl_rd_header_114 m z.2.2) := by
  unfold kfl_rd_header_114
  refine RP_bndT (fun y8 => ?_)
  refine RP_ite (fun h1 => ?_) (fun h1 => ?_)
  · skip
    refine RP_ite (fun h2 => ?_) (fun h2 => ?_)
    · skip
      exact RP_w (u_kfl_rd_header_147 m) (fun z hz => (fr_s hz fr_0 rfl rfl))
    · skip
      exact RP_w (u_kfl_rd_header_137 v2 m) (fun z hz => (fr_s hz fr_0 rfl rfl))
  · skip
    exact RP_w (u_kfl_rd_header_137 v2 m) (fun z hz => (fr_s hz fr_0 rfl rfl))
def F_kfl_rd_header_95 : List Nat := [205, 206, 207, 208, 209, 210, 211, 212]
def A_kfl_rd_header_95 : List Nat := []
theorem u_kfl_rd_header_95 (v1 : Int) (v2 : Int) (m : mR) : RP (kfl_rd_header_95 v1 v2 m) (fun z : Int × Int × mR => fr F_kfl_rd_header_95 A_kfl_rd_header_95 m z.2.2) := by
  unfold kfl_rd_header_95
  refine RP_ite (fun h1 => ?_) (fun h1 => ?_)
  · skip
    exact RP_w (u_kfl_rd_header_114 v1 v2 m) (fun z hz => (fr_s hz fr_0 rfl rfl))
  · skip
    refine RP_bnd (u_kf_tx_refuse m) (fun y14 h2 => ?_)
    have h3 : fr F_kfl_rd_header_95 A_kfl_rd_header_95 m y14.2.2 := (fr_s h2 fr_0 rfl rfl)
    refine RP_ite (fun h4 => ?_) (fun h4 => ?_)
    · skip
      exact RP_w (u_kfl_rd_header_114 v1 v2 y14.2.2) (fun z hz => (fr_s hz h3 rfl rfl))
    · skip
      exact RP_some h3
def F_kfl_rd_header_83 : List Nat := [205, 206, 207, 208, 209, 210, 211, 212]
def A_kfl_rd_header_83 : List Nat := [10, 11, 12]
theorem u_kfl_rd_header_83 (v1 : Int) (v2 : Int) (v3 : Int) (m : mR) : RP (kfl_rd_header_83 v1 v2 v3 m) (sel (fun z : (Int × mR) => fr F_kfl_rd_header_83 A_kfl_rd_header_83 m z.2) (sel (fun z : (mR) => fr F_kfl_rd_header_83 A_kfl_rd_header_83 m z) (fun z : Int × mR => fr F_kfl_rd_header_83 A_kfl_rd_header_83 m z.2))) := by
  unfold kfl_rd_header_83
  refine RP_bnd (u_kf_rd_field v1 v3 m) (fun y17 h1 => ?_)
  have h2 : fr F_kfl_rd_header_83 A_kfl_rd_header_83 m y17.2.2 := (fr_s h1 fr_0 rfl rfl)
  refine RP_ite (fun h3 => ?_) (fun h3 => ?_)
  · skip
    exact RP_some h2
  · skip
    exact RP_some h2
def F_kfb_rd_header_60 : List Nat := [205, 206, 207, 208, 209, 210, 211, 212]
def A_kfb_rd_header_60 : List Nat := [10, 11, 12]
theorem u_kfb_rd_header_60 (v1 : Int) (v2 : Int) (s : Int × mR) : RP (kfb_rd_header_60 v1 v2 s) (sel (fun z : (Int × mR) => fr F_kfb_rd_header_60 A_kfb_rd_header_60 s.2 z.2) (sel (fun z : (mR) => fr F_kfb_rd_header_60 A_kfb_rd_header_60 s.2 z) (fun z : Int × mR => fr F_kfb_rd_header_60 A_kfb_rd_header_60 s.2 z.2))) := by
  unfold kfb_rd_header_60
  refine RP_ite (fun h1 => ?_) (fun h1 => ?_)
  · skip
    exact RP_some fr_0
  · skip
    refine RP_ite (fun h2 => ?_) (fun h2 => ?_)
    · skip
      exact RP_w (u_kfl_rd_header_83 v1 v2 s.1 s.2) (sl_w (fun z hz => (fr_s hz fr_0 rfl rfl)) (sl_w (fun z hz => (fr_s hz fr_0 rfl rfl)) (fun z hz => (fr_s hz fr_0 rfl rfl))))
    · skip
      refine RP_ite (fun h3 => ?_) (fun h3 => ?_)
      · skip
        exact RP_w (u_kfl_rd_header_83 v1 v2 s.1 s.2) (sl_w (fun z hz => (fr_s hz fr_0 rfl rfl)) (sl_w (fun z hz => (fr_s hz fr_0 rfl rfl)) (fun z hz => (fr_s hz fr_0 rfl rfl))))
      · skip
        exact RP_some fr_0
theorem uw_kfb_rd_header_60 (v1 : Int) (v2 : Int) (s : Int × mR) : RP (whl (kfb_rd_header_60 v1 v2) s) (sel (fun z : ((mR)) => fr F_kfb_rd_header_60 A_kfb_rd_header_60 s.2 z) (fun z : Int × mR => fr F_kfb_rd_header_60 A_kfb_rd_header_60 s.2 z.2)) := RP_whl (I := fun q : Int × mR => fr F_kfb_rd_header_60 A_kfb_rd_header_60 s.2 q.2) (fun q hq => RP_w (u_kfb_rd_header_60 v1 v2 q) (sl_w (fun z hz => (fr_s hz hq rfl rfl)) (sl_w (fun z hz => (fr_s hz hq rfl rfl)) (fun z hz => (fr_s hz hq rfl rfl))))) fr_0
theorem u_kf_rd_header (m : mR) : RP (kf_rd_header m) (fun z : Int × Int × mR => fr kF_rd_header kA_rd_header m z.2.2) := by
  unfold kf_rd_header
  refine RP_bnd (u_kf_tx_advance m) (fun y24 h1 => ?_)
  have h2 : fr kF_rd_header kA_rd_header m y24.2.2 := (fr_s h1 fr_0 rfl rfl)
  refine RP_ite (fun h3 => ?_) (fun h3 => ?_)
  · skip
    refine RP_bnd (u_kf_tx_makeNew 300 (y24.2.2.1 214) 12 y24.2.2) (fun y27 h4 => ?_)
    have h5 : fr kF_rd_header kA_rd_header m y27.2.2 := (fr_s h4 h2 rfl rfl)
    refine RP_ite (fun h6 => ?_) (fun h6 => ?_)
    · skip
      refine RP_bnd (u_kf_tx_expect 123 (mO y27.2.2 [(214, cut ((y27.2.2.1 214) + 1))] [])) (fun y30 h7 => ?_)
      have h8 : fr kF_rd_header kA_rd_header m y30.2.2 := (fr_s h7 (fr_m h5 rfl rfl) rfl rfl)
      refine RP_ite (fun h9 => ?_) (fun h9 => ?_)
      · skip
        refine RP_bnd (uw_kfb_rd_header_60 (y24.2.2.1 214) (y24.2.2.1 207) (0, y30.2.2)) (RP_sl (fun e33 h10 => ?_) (fun e36 h12 => ?_))
        · skip
          have h11 : fr kF_rd_header kA_rd_header m e33 := (fr_s h10 h8 rfl rfl)
          exact RP_w (u_kfl_rd_header_95 (y24.2.2.1 214) (y24.2.2.1 207) e33) (fun z hz => (fr_s hz h11 rfl rfl))
        · skip
          have h13 : fr kF_rd_header kA_rd_header m e36.2 := (fr_s h12 h8 rfl rfl)
          exact RP_some h13
      · skip
        exact RP_some h8
    · skip
      exact RP_some h5
  · skip
    exact RP_some h2
