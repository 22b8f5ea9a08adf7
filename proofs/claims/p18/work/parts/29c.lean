def kF_fm_prefixes : List Nat := [205, 206, 207, 208, 209, 210, 211, 212, 228, 230]
def kA_fm_prefixes : List Nat := [68, 69]
def F_kfl_fm_prefixes_144 : List Nat := []
def A_kfl_fm_prefixes_144 : List Nat := []
theorem u_kfl_fm_prefixes_144 (v1 : Int) (v2 : Int) (m : mR) : RP (kfl_fm_prefixes_144 v1 v2 m) (sel (fun z : (Int × Int × mR) => fr F_kfl_fm_prefixes_144 A_kfl_fm_prefixes_144 m z.2.2) (sel (fun z : (mR) => fr F_kfl_fm_prefixes_144 A_kfl_fm_prefixes_144 m z) (fun z : Int × mR => fr F_kfl_fm_prefixes_144 A_kfl_fm_prefixes_144 m z.2))) := by
  unfold kfl_fm_prefixes_144
  exact RP_some fr_0
def F_kfl_fm_prefixes_136 : List Nat := [205, 206, 207, 208, 209, 210, 211, 212, 228]
def A_kfl_fm_prefixes_136 : List Nat := [68, 69]
theorem u_kfl_fm_prefixes_136 (v1 : Int) (v2 : Int) (u1 : Int) (m : mR) : RP (kfl_fm_prefixes_136 v1 v2 u1 m) (sel (fun z : (Int × Int × mR) => fr F_kfl_fm_prefixes_136 A_kfl_fm_prefixes_136 m z.2.2) (sel (fun z : (mR) => fr F_kfl_fm_prefixes_136 A_kfl_fm_prefixes_136 m z) (fun z : Int × mR => fr F_kfl_fm_prefixes_136 A_kfl_fm_prefixes_136 m z.2))) := by
  unfold kfl_fm_prefixes_136
  refine RP_bnd (u_kf_fm_open u1 m) (fun y2 h1 => ?_)
  have h2 : fr F_kfl_fm_prefixes_136 A_kfl_fm_prefixes_136 m y2.2.2 := (fr_s h1 fr_0 rfl rfl)
  refine RP_ite (fun h3 => ?_) (fun h3 => ?_)
  · skip
    exact RP_w (u_kfl_fm_prefixes_144 v1 v2 y2.2.2) (sl_w (fun z hz => (fr_s hz h2 rfl rfl)) (sl_w (fun z hz => (fr_s hz h2 rfl rfl)) (fun z hz => (fr_s hz h2 rfl rfl))))
  · skip
    exact RP_some h2
def F_kfl_fm_prefixes_100 : List Nat := [205, 206, 207, 208, 209, 210, 211, 212, 228, 230]
def A_kfl_fm_prefixes_100 : List Nat := [68, 69]
theorem u_kfl_fm_prefixes_100 (v1 : Int) (v2 : Int) (m : mR) : RP (kfl_fm_prefixes_100 v1 v2 m) (sel (fun z : (Int × Int × mR) => fr F_kfl_fm_prefixes_100 A_kfl_fm_prefixes_100 m z.2.2) (sel (fun z : (mR) => fr F_kfl_fm_prefixes_100 A_kfl_fm_prefixes_100 m z) (fun z : Int × mR => fr F_kfl_fm_prefixes_100 A_kfl_fm_prefixes_100 m z.2))) := by
  unfold kfl_fm_prefixes_100
  refine RP_ite (fun h1 => ?_) (fun h1 => ?_)
  · skip
    exact RP_w (u_kfl_fm_prefixes_136 v1 v2 405 (mO m [(230, cut ((m.1 230) + 1))] [])) (sl_w (fun z hz => (fr_s hz (fr_m fr_0 rfl rfl) rfl rfl)) (sl_w (fun z hz => (fr_s hz (fr_m fr_0 rfl rfl) rfl rfl)) (fun z hz => (fr_s hz (fr_m fr_0 rfl rfl) rfl rfl))))
  · skip
    exact RP_w (u_kfl_fm_prefixes_136 v1 v2 (m.1 206) (mO m [(230, cut ((m.1 230) + 1))] [])) (sl_w (fun z hz => (fr_s hz (fr_m fr_0 rfl rfl) rfl rfl)) (sl_w (fun z hz => (fr_s hz (fr_m fr_0 rfl rfl) rfl rfl)) (fun z hz => (fr_s hz (fr_m fr_0 rfl rfl) rfl rfl))))
def F_kfl_fm_prefixes_76 : List Nat := [205, 206, 207, 208, 209, 210, 211, 212, 228, 230]
def A_kfl_fm_prefixes_76 : List Nat := [68, 69]
theorem u_kfl_fm_prefixes_76 (v1 : Int) (v2 : Int) (m : mR) : RP (kfl_fm_prefixes_76 v1 v2 m) (sel (fun z : (Int × Int × mR) => fr F_kfl_fm_prefixes_76 A_kfl_fm_prefixes_76 m z.2.2) (sel (fun z : (mR) => fr F_kfl_fm_prefixes_76 A_kfl_fm_prefixes_76 m z) (fun z : Int × mR => fr F_kfl_fm_prefixes_76 A_kfl_fm_prefixes_76 m z.2))) := by
  unfold kfl_fm_prefixes_76
  refine RP_ite (fun h1 => ?_) (fun h1 => ?_)
  · skip
    exact RP_w (u_kfl_fm_prefixes_100 v1 v2 m) (sl_w (fun z hz => (fr_s hz fr_0 rfl rfl)) (sl_w (fun z hz => (fr_s hz fr_0 rfl rfl)) (fun z hz => (fr_s hz fr_0 rfl rfl))))
  · skip
    refine RP_bnd (u_kf_tx_fail 4 (m.1 207) m) (fun y7 h2 => ?_)
    have h3 : fr F_kfl_fm_prefixes_76 A_kfl_fm_prefixes_76 m y7.2.2 := (fr_s h2 fr_0 rfl rfl)
    refine RP_ite (fun h4 => ?_) (fun h4 => ?_)
    · skip
      exact RP_w (u_kfl_fm_prefixes_100 v1 v2 y7.2.2) (sl_w (fun z hz => (fr_s hz h3 rfl rfl)) (sl_w (fun z hz => (fr_s hz h3 rfl rfl)) (fun z hz => (fr_s hz h3 rfl rfl))))
    · skip
      exact RP_some h3
def F_kfb_fm_prefixes_4 : List Nat := [205, 206, 207, 208, 209, 210, 211, 212, 228, 230]
def A_kfb_fm_prefixes_4 : List Nat := [68, 69]
theorem u_kfb_fm_prefixes_4 (s : Int × Int × mR) : RP (kfb_fm_prefixes_4 s) (sel (fun z : (Int × Int × mR) => fr F_kfb_fm_prefixes_4 A_kfb_fm_prefixes_4 s.2.2 z.2.2) (sel (fun z : (mR) => fr F_kfb_fm_prefixes_4 A_kfb_fm_prefixes_4 s.2.2 z) (fun z : Int × mR => fr F_kfb_fm_prefixes_4 A_kfb_fm_prefixes_4 s.2.2 z.2))) := by
  unfold kfb_fm_prefixes_4
  refine RP_ite (fun h1 => ?_) (fun h1 => ?_)
  · skip
    exact RP_some fr_0
  · skip
    refine RP_ite (fun h2 => ?_) (fun h2 => ?_)
    · skip
      exact RP_some fr_0
    · skip
      refine RP_ite (fun h3 => ?_) (fun h3 => ?_)
      · skip
        refine RP_bnd (u_kf_fm_open 40 s.2.2) (fun y17 h4 => ?_)
        have h5 : fr F_kfb_fm_prefixes_4 A_kfb_fm_prefixes_4 s.2.2 y17.2.2 := (fr_s h4 fr_0 rfl rfl)
        refine RP_ite (fun h6 => ?_) (fun h6 => ?_)
        · skip
          refine RP_bnd (u_kf_fm_deepen y17.2.2) (fun y20 h7 => ?_)
          have h8 : fr F_kfb_fm_prefixes_4 A_kfb_fm_prefixes_4 s.2.2 y20.2.2 := (fr_s h7 h5 rfl rfl)
          refine RP_ite (fun h9 => ?_) (fun h9 => ?_)
          · skip
            exact RP_w (u_kfl_fm_prefixes_144 s.1 s.2.1 y20.2.2) (sl_w (fun z hz => (fr_s hz h8 rfl rfl)) (sl_w (fun z hz => (fr_s hz h8 rfl rfl)) (fun z hz => (fr_s hz h8 rfl rfl))))
          · skip
            exact RP_some h8
        · skip
          exact RP_some h5
      · skip
        refine RP_ite (fun h10 => ?_) (fun h10 => ?_)
        · skip
          exact RP_w (u_kfl_fm_prefixes_76 s.1 s.2.1 s.2.2) (sl_w (fun z hz => (fr_s hz fr_0 rfl rfl)) (sl_w (fun z hz => (fr_s hz fr_0 rfl rfl)) (fun z hz => (fr_s hz fr_0 rfl rfl))))
        · skip
          refine RP_ite (fun h11 => ?_) (fun h11 => ?_)
          · skip
            exact RP_w (u_kfl_fm_prefixes_76 s.1 s.2.1 s.2.2) (sl_w (fun z hz => (fr_s hz fr_0 rfl rfl)) (sl_w (fun z hz => (fr_s hz fr_0 rfl rfl)) (fun z hz => (fr_s hz fr_0 rfl rfl))))
          · skip
            refine RP_ite (fun h12 => ?_) (fun h12 => ?_)
            · skip
              exact RP_w (u_kfl_fm_prefixes_76 s.1 s.2.1 s.2.2) (sl_w (fun z hz => (fr_s hz fr_0 rfl rfl)) (sl_w (fun z hz => (fr_s hz fr_0 rfl rfl)) (fun z hz => (fr_s hz fr_0 rfl rfl))))
            · skip
              exact RP_w (u_kfl_fm_prefixes_144 0 s.2.1 s.2.2) (sl_w (fun z hz => (fr_s hz fr_0 rfl rfl)) (sl_w (fun z hz => (fr_s hz fr_0 rfl rfl)) (fun z hz => (fr_s hz fr_0 rfl rfl))))
theorem uw_kfb_fm_prefixes_4 (s : Int × Int × mR) : RP (whl kfb_fm_prefixes_4 s) (sel (fun z : ((mR)) => fr F_kfb_fm_prefixes_4 A_kfb_fm_prefixes_4 s.2.2 z) (fun z : Int × mR => fr F_kfb_fm_prefixes_4 A_kfb_fm_prefixes_4 s.2.2 z.2)) := RP_whl (I := fun q : Int × Int × mR => fr F_kfb_fm_prefixes_4 A_kfb_fm_prefixes_4 s.2.2 q.2.2) (fun q hq => RP_w (u_kfb_fm_prefixes_4 q) (sl_w (fun z hz => (fr_s hz hq rfl rfl)) (sl_w (fun z hz => (fr_s hz hq rfl rfl)) (fun z hz => (fr_s hz hq rfl rfl))))) fr_0
theorem u_kf_fm_prefixes (m : mR) : RP (kf_fm_prefixes m) (fun z : Int × Int × mR => fr kF_fm_prefixes kA_fm_prefixes m z.2.2) := by
  unfold kf_fm_prefixes
  refine RP_bnd (uw_kfb_fm_prefixes_4 (1, 0, m)) (RP_sl (fun e23 h1 => ?_) (fun e26 h3 => ?_))
  · skip
    have h2 : fr kF_fm_prefixes kA_fm_prefixes m e23 := (fr_s h1 fr_0 rfl rfl)
    exact RP_some h2
  · skip
    have h4 : fr kF_fm_prefixes kA_fm_prefixes m e26.2 := (fr_s h3 fr_0 rfl rfl)
    exact RP_some h4
def kF_fm_atom : List Nat := [205, 206, 207, 208, 209, 210, 211, 212, 213, 220, 229]
def kA_fm_atom : List Nat := [18, 19, 20, 22, 23, 24, 70]
def F_kfl_fm_atom_220 : List Nat := []
def A_kfl_fm_atom_220 : List Nat := []
theorem u_kfl_fm_atom_220 (m : mR) : RP (kfl_fm_atom_220 m) (fun z : Int × Int × mR => fr F_kfl_fm_atom_220 A_kfl_fm_atom_220 m z.2.2) := by
  unfold kfl_fm_atom_220
  exact RP_some fr_0
theorem u_kf_fm_atom (m : mR) : RP (kf_fm_atom m) (fun z : Int × Int × mR => fr kF_fm_atom kA_fm_atom m z.2.2) := by
  unfold kf_fm_atom
  refine RP_ite (fun h1 => ?_) (fun h1 => ?_)
  · skip
    refine RP_bnd (u_kf_tx_advance m) (fun y35 h2 => ?_)
    have h3 : fr kF_fm_atom kA_fm_atom m y35.2.2 := (fr_s h2 fr_0 rfl rfl)
    refine RP_ite (fun h4 => ?_) (fun h4 => ?_)
    · skip
      refine RP_bnd (u_kf_fm_add 257 0 0 64 (m.1 207) y35.2.2) (fun y38 h5 => ?_)
      have h6 : fr kF_fm_atom kA_fm_atom m y38.2 := (fr_s h5 h3 rfl rfl)
      exact RP_some (fr_m h6 rfl rfl)
    · skip
      exact RP_some h3
  · skip
    refine RP_ite (fun h7 => ?_) (fun h7 => ?_)
    · skip
      refine RP_bnd (u_kf_tx_advance m) (fun y26 h8 => ?_)
      have h9 : fr kF_fm_atom kA_fm_atom m y26.2.2 := (fr_s h8 fr_0 rfl rfl)
      refine RP_ite (fun h10 => ?_) (fun h10 => ?_)
      · skip
        refine RP_bnd (u_kf_tx_known 301 y26.2.2) (fun y29 h11 => ?_)
        have h12 : fr kF_fm_atom kA_fm_atom m y29.2.2 := (fr_s h11 h9 rfl rfl)
        refine RP_ite (fun h13 => ?_) (fun h13 => ?_)
        · skip
          refine RP_bnd (u_kf_fm_add 400 (cut (y29.2.1 * 17)) 0 1 (m.1 207) y29.2.2) (fun y32 h14 => ?_)
          have h15 : fr kF_fm_atom kA_fm_atom m y32.2 := (fr_s h14 h12 rfl rfl)
          exact RP_some h15
        · skip
          exact RP_some h12
      · skip
        exact RP_some h9
    · skip
      refine RP_ite (fun h16 => ?_) (fun h16 => ?_)
      · skip
        refine RP_bndT (fun y7 => ?_)
        refine RP_ite (fun h17 => ?_) (fun h17 => ?_)
        · skip
          refine RP_bnd (u_kf_fm_placeSlot m) (fun y11 h18 => ?_)
          have h19 : fr kF_fm_atom kA_fm_atom m y11.2.2 := (fr_s h18 fr_0 rfl rfl)
          refine RP_ite (fun h20 => ?_) (fun h20 => ?_)
          · skip
            refine RP_bndT (fun y14 => ?_)
            refine RP_bnd (u_kf_fm_add 400 y11.2.1 0 y14 (m.1 207) y11.2.2) (fun y17 h21 => ?_)
            have h22 : fr kF_fm_atom kA_fm_atom m y17.2 := (fr_s h21 h19 rfl rfl)
            exact RP_w (u_kfl_fm_atom_220 y17.2) (fun z hz => (fr_s hz h22 rfl rfl))
          · skip
            exact RP_some h19
        · skip
          refine RP_bnd (u_kf_tx_advance m) (fun y20 h23 => ?_)
          have h24 : fr kF_fm_atom kA_fm_atom m y20.2.2 := (fr_s h23 fr_0 rfl rfl)
          refine RP_ite (fun h25 => ?_) (fun h25 => ?_)
          · skip
            refine RP_bnd (u_kf_fm_add 401 y7 0 ((m.2 40) (cut ((cut ((m.1 231) * 4)) + y7))) (m.1 207) y20.2.2) (fun y23 h26 => ?_)
            have h27 : fr kF_fm_atom kA_fm_atom m y23.2 := (fr_s h26 h24 rfl rfl)
            exact RP_w (u_kfl_fm_atom_220 y23.2) (fun z hz => (fr_s hz h27 rfl rfl))
          · skip
            exact RP_some h24
      · skip
        refine RP_bnd (u_kf_tx_refuse m) (fun y4 h28 => ?_)
        have h29 : fr kF_fm_atom kA_fm_atom m y4.2.2 := (fr_s h28 fr_0 rfl rfl)
        refine RP_ite (fun h30 => ?_) (fun h30 => ?_)
        · skip
          exact RP_some h29
        · skip
          exact RP_some h29
def kF_fm_whole : List Nat := [205, 206, 207, 208, 209, 210, 211, 212, 213, 220, 228, 229, 230, 231]
def kA_fm_whole : List Nat := [18, 19, 20, 21, 22, 23, 24, 68, 69, 70]
def F_kfl_fm_whole_63 : List Nat := []
def A_kfl_fm_whole_63 : List Nat := []
theorem u_kfl_fm_whole_63 (m : mR) : RP (kfl_fm_whole_63 m) (fun z : Int × Int × mR => fr F_kfl_fm_whole_63 A_kfl_fm_whole_63 m z.2.2) := by
  unfold kfl_fm_whole_63
  exact RP_some fr_0
def F_kfl_fm_whole_48 : List Nat := [205, 206, 207, 208, 209, 210, 211, 212, 213, 220, 228, 229, 230]
def A_kfl_fm_whole_48 : List Nat := [18, 19, 20, 21, 22, 23, 68, 69, 70]
theorem u_kfl_fm_whole_48 (v3 : Int) (m : mR) : RP (kfl_fm_whole_48 v3 m) (sel (fun z : (Int × Int × mR) => fr F_kfl_fm_whole_48 A_kfl_fm_whole_48 m z.2.2) (sel (fun z : (mR) => fr F_kfl_fm_whole_48 A_kfl_fm_whole_48 m z) (fun z : Int × mR => fr F_kfl_fm_whole_48 A_kfl_fm_whole_48 m z.2))) := by
  unfold kfl_fm_whole_48
  refine RP_bnd (u_kf_fm_suffixes m) (fun y2 h1 => ?_)
  have h2 : fr F_kfl_fm_whole_48 A_kfl_fm_whole_48 m y2.2.2 := (fr_s h1 fr_0 rfl rfl)
  refine RP_ite (fun h3 => ?_) (fun h3 => ?_)
  · skip
    refine RP_bnd (u_kf_fm_goesOn y2.2.2) (fun y5 h4 => ?_)
    have h5 : fr F_kfl_fm_whole_48 A_kfl_fm_whole_48 m y5.2.2 := (fr_s h4 h2 rfl rfl)
    refine RP_ite (fun h6 => ?_) (fun h6 => ?_)
    · skip
      exact RP_some h5
    · skip
      exact RP_some h5
  · skip
    exact RP_some h2
def F_kfb_fm_whole_24 : List Nat := [205, 206, 207, 208, 209, 210, 211, 212, 213, 220, 228, 229, 230]
def A_kfb_fm_whole_24 : List Nat := [18, 19, 20, 21, 22, 23, 24, 68, 69, 70]
theorem u_kfb_fm_whole_24 (s : Int × Int × mR) : RP (kfb_fm_whole_24 s) (sel (fun z : (Int × Int × mR) => fr F_kfb_fm_whole_24 A_kfb_fm_whole_24 s.2.2 z.2.2) (sel (fun z : (mR) => fr F_kfb_fm_whole_24 A_kfb_fm_whole_24 s.2.2 z) (fun z : Int × mR => fr F_kfb_fm_whole_24 A_kfb_fm_whole_24 s.2.2 z.2))) := by
  unfold kfb_fm_whole_24
  refine RP_ite (fun h1 => ?_) (fun h1 => ?_)
  · skip
    exact RP_some fr_0
  · skip
    refine RP_ite (fun h2 => ?_) (fun h2 => ?_)
    · skip
      exact RP_some fr_0
    · skip
      refine RP_ite (fun h3 => ?_) (fun h3 => ?_)
      · skip
        refine RP_bnd (u_kf_fm_prefixes s.2.2) (fun y12 h4 => ?_)
        have h5 : fr F_kfb_fm_whole_24 A_kfb_fm_whole_24 s.2.2 y12.2.2 := (fr_s h4 fr_0 rfl rfl)
        refine RP_ite (fun h6 => ?_) (fun h6 => ?_)
        · skip
          refine RP_bnd (u_kf_fm_atom y12.2.2) (fun y15 h7 => ?_)
          have h8 : fr F_kfb_fm_whole_24 A_kfb_fm_whole_24 s.2.2 y15.2.2 := (fr_s h7 h5 rfl rfl)
          refine RP_ite (fun h9 => ?_) (fun h9 => ?_)
          · skip
            exact RP_w (u_kfl_fm_whole_48 s.2.1 y15.2.2) (sl_w (fun z hz => (fr_s hz h8 rfl rfl)) (sl_w (fun z hz => (fr_s hz h8 rfl rfl)) (fun z hz => (fr_s hz h8 rfl rfl))))
          · skip
            exact RP_some h8
        · skip
          exact RP_some h5
      · skip
        exact RP_w (u_kfl_fm_whole_48 s.2.1 s.2.2) (sl_w (fun z hz => (fr_s hz fr_0 rfl rfl)) (sl_w (fun z hz => (fr_s hz fr_0 rfl rfl)) (fun z hz => (fr_s hz fr_0 rfl rfl))))
theorem uw_kfb_fm_whole_24 (s : Int × Int × mR) : RP (whl kfb_fm_whole_24 s) (sel (fun z : ((mR)) => fr F_kfb_fm_whole_24 A_kfb_fm_whole_24 s.2.2 z) (fun z : Int × mR => fr F_kfb_fm_whole_24 A_kfb_fm_whole_24 s.2.2 z.2)) := RP_whl (I := fun q : Int × Int × mR => fr F_kfb_fm_whole_24 A_kfb_fm_whole_24 s.2.2 q.2.2) (fun q hq => RP_w (u_kfb_fm_whole_24 q) (sl_w (fun z hz => (fr_s hz hq rfl rfl)) (sl_w (fun z hz => (fr_s hz hq rfl rfl)) (fun z hz => (fr_s hz hq rfl rfl))))) fr_0
theorem u_kf_fm_whole (v1 : Int) (m : mR) : RP (kf_fm_whole v1 m) (fun z : Int × Int × mR => fr kF_fm_whole kA_fm_whole m z.2.2) := by
  unfold kf_fm_whole
  refine RP_bnd (uw_kfb_fm_whole_24 (1, 0, (mO m [(228, 0), (229, 0), (230, 1), (231, v1)] []))) (RP_sl (fun e18 h1 => ?_) (fun e21 h3 => ?_))
  · skip
    have h2 : fr kF_fm_whole kA_fm_whole m e18 := (fr_s h1 (fr_m fr_0 rfl rfl) rfl rfl)
    exact RP_w (u_kfl_fm_whole_63 e18) (fun z hz => (fr_s hz h2 rfl rfl))
  · skip
    have h4 : fr kF_fm_whole kA_fm_whole m e21.2 := (fr_s h3 (fr_m fr_0 rfl rfl) rfl rfl)
    exact RP_some h4
def kF_fm_mustFit : List Nat := [211, 212]
def kA_fm_mustFit : List Nat := [22]
theorem u_kf_fm_mustFit (v1 : Int) (v2 : Int) (m : mR) : RP (kf_fm_mustFit v1 v2 m) (fun z : Int × Int × mR => fr kF_fm_mustFit kA_fm_mustFit m z.2.2) := by
  unfold kf_fm_mustFit
  refine RP_bnd (u_kf_nd_fits v1 v2 m) (fun y1 h1 => ?_)
  have h2 : fr kF_fm_mustFit kA_fm_mustFit m y1.2 := (fr_s h1 fr_0 rfl rfl)
  refine RP_ite (fun h3 => ?_) (fun h3 => ?_)
  · skip
    refine RP_bnd (u_kf_tx_fail 7 ((y1.2.2 23) v1) y1.2) (fun y5 h4 => ?_)
    have h5 : fr kF_fm_mustFit kA_fm_mustFit m y5.2.2 := (fr_s h4 h2 rfl rfl)
    refine RP_ite (fun h6 => ?_) (fun h6 => ?_)
    · skip
      exact RP_some h5
    · skip
      exact RP_some h5
  · skip
    exact RP_some h2
def kF_rd_statement : List Nat := [205, 206, 207, 208, 209, 210, 211, 212, 213, 220, 224, 228, 229, 230, 231]
def kA_rd_statement : List Nat := [18, 19, 20, 21, 22, 23, 24, 45, 46, 47, 48, 49, 50, 51, 68, 69, 70]
def F_kfl_rd_statement_333 : List Nat := [205, 206, 207, 208, 209, 210, 211, 212]
def A_kfl_rd_statement_333 : List Nat := []
theorem u_kfl_rd_statement_333 (v3 : Int) (m : mR) : RP (kfl_rd_statement_333 v3 m) (fun z : Int × Int × mR => fr F_kfl_rd_statement_333 A_kfl_rd_statement_333 m z.2.2) := by
  unfold kfl_rd_statement_333
  refine RP_bnd (u_kf_tx_expect 59 m) (fun y1 h1 => ?_)
  have h2 : fr F_kfl_rd_statement_333 A_kfl_rd_statement_333 m y1.2.2 := (fr_s h1 fr_0 rfl rfl)
  refine RP_ite (fun h3 => ?_) (fun h3 => ?_)
  · skip
    exact RP_some h2
  · skip
    exact RP_some h2
def F_kfl_rd_statement_314 : List Nat := [205, 206, 207, 208, 209, 210, 211, 212]
def A_kfl_rd_statement_314 : List Nat := [46]
theorem u_kfl_rd_statement_314 (v2 : Int) (v3 : Int) (m : mR) : RP (kfl_rd_statement_314 v2 v3 m) (fun z : Int × Int × mR => fr F_kfl_rd_statement_314 A_kfl_rd_statement_314 m z.2.2) := by
  unfold kfl_rd_statement_314
  refine RP_ite (fun h1 => ?_) (fun h1 => ?_)
  · skip
    exact RP_w (u_kfl_rd_statement_333 v3 (mO m [] [(46, upI (m.2 46) v3 220)])) (fun z hz => (fr_s hz (fr_m fr_0 rfl rfl) rfl rfl))
  · skip
    exact RP_w (u_kfl_rd_statement_333 v3 m) (fun z hz => (fr_s hz fr_0 rfl rfl))
def F_kfl_rd_statement_292 : List Nat := [205, 206, 207, 208, 209, 210, 211, 212]
def A_kfl_rd_statement_292 : List Nat := [46]
theorem u_kfl_rd_statement_292 (v2 : Int) (v3 : Int) (m : mR) : RP (kfl_rd_statement_292 v2 v3 m) (fun z : Int × Int × mR => fr F_kfl_rd_statement_292 A_kfl_rd_statement_292 m z.2.2) := by
  unfold kfl_rd_statement_292
  refine RP_bnd (u_kf_tx_known 301 m) (fun y5 h1 => ?_)
  have h2 : fr F_kfl_rd_statement_292 A_kfl_rd_statement_292 m y5.2.2 := (fr_s h1 fr_0 rfl rfl)
  refine RP_ite (fun h3 => ?_) (fun h3 => ?_)
  · skip
    exact RP_w (u_kfl_rd_statement_314 v2 v3 (mO y5.2.2 [] [(46, upI (y5.2.2.2 46) v3 (cut (y5.2.1 * 17)))])) (fun z hz => (fr_s hz (fr_m h2 rfl rfl) rfl rfl))
  · skip
    exact RP_some h2
def F_kfl_rd_statement_278 : List Nat := [205, 206, 207, 208, 209, 210, 211, 212]
def A_kfl_rd_statement_278 : List Nat := [46]
theorem u_kfl_rd_statement_278 (v2 : Int) (v3 : Int) (m : mR) : RP (kfl_rd_statement_278 v2 v3 m) (fun z : Int × Int × mR => fr F_kfl_rd_statement_278 A_kfl_rd_statement_278 m z.2.2) := by
  unfold kfl_rd_statement_278
  refine RP_ite (fun h1 => ?_) (fun h1 => ?_)
  · skip
    exact RP_w (u_kfl_rd_statement_292 v2 v3 m) (fun z hz => (fr_s hz fr_0 rfl rfl))
  · skip
    refine RP_ite (fun h2 => ?_) (fun h2 => ?_)
    · skip
      exact RP_w (u_kfl_rd_statement_292 v2 v3 m) (fun z hz => (fr_s hz fr_0 rfl rfl))
    · skip
      exact RP_w (u_kfl_rd_statement_314 v2 v3 m) (fun z hz => (fr_s hz fr_0 rfl rfl))
def F_kfl_rd_statement_222 : List Nat := [205, 206, 207, 208, 209, 210, 211, 212, 213, 220, 228, 229, 230, 231]
def A_kfl_rd_statement_222 : List Nat := [18, 19, 20, 21, 22, 23, 24, 46, 50, 51, 68, 69, 70]
theorem u_kfl_rd_statement_222 (v1 : Int) (v2 : Int) (v3 : Int) (u0 : Int) (m : mR) : RP (kfl_rd_statement_222 v1 v2 v3 u0 m) (fun z : Int × Int × mR => fr F_kfl_rd_statement_222 A_kfl_rd_statement_222 m z.2.2) := by
  unfold kfl_rd_statement_222
  refine RP_bnd (u_kf_fm_whole v1 (mO m [] [(50, upI (m.2 50) v3 (m.1 220))])) (fun y10 h1 => ?_)
  have h2 : fr F_kfl_rd_statement_222 A_kfl_rd_statement_222 m y10.2.2 := (fr_s h1 (fr_m fr_0 rfl rfl) rfl rfl)
  refine RP_ite (fun h3 => ?_) (fun h3 => ?_)
  · skip
    refine RP_bnd (u_kf_fm_mustFit ((upI (y10.2.2.2 51) v3 y10.2.1) v3) u0 (mO y10.2.2 [] [(51, upI (y10.2.2.2 51) v3 y10.2.1)])) (fun y13 h4 => ?_)
    have h5 : fr F_kfl_rd_statement_222 A_kfl_rd_statement_222 m y13.2.2 := (fr_s h4 (fr_m h2 rfl rfl) rfl rfl)
    refine RP_ite (fun h6 => ?_) (fun h6 => ?_)
    · skip
      exact RP_w (u_kfl_rd_statement_278 v2 v3 y13.2.2) (fun z hz => (fr_s hz h5 rfl rfl))
    · skip
      exact RP_some h5
  · skip
    exact RP_some h2
def F_kfl_rd_statement_175 : List Nat := [205, 206, 207, 208, 209, 210, 211, 212, 213, 220, 228, 229, 230, 231]
def A_kfl_rd_statement_175 : List Nat := [18, 19, 20, 21, 22, 23, 24, 46, 50, 51, 68, 69, 70]
theorem u_kfl_rd_statement_175 (v1 : Int) (v2 : Int) (v3 : Int) (m : mR) : RP (kfl_rd_statement_175 v1 v2 v3 m) (fun z : Int × Int × mR => fr F_kfl_rd_statement_175 A_kfl_rd_statement_175 m z.2.2) := by
  unfold kfl_rd_statement_175
  refine RP_ite (fun h1 => ?_) (fun h1 => ?_)
  · skip
    exact RP_w (u_kfl_rd_statement_222 v1 v2 v3 ((m.2 15) ((m.2 47) v3)) m) (fun z hz => (fr_s hz fr_0 rfl rfl))
  · skip
    refine RP_bndT (fun y17 => ?_)
    exact RP_w (u_kfl_rd_statement_222 v1 v2 v3 y17 m) (fun z hz => (fr_s hz fr_0 rfl rfl))
def F_kfl_rd_statement_162 : List Nat := [205, 206, 207, 208, 209, 210, 211, 212, 213, 220, 228, 229, 230, 231]
def A_kfl_rd_statement_162 : List Nat := [18, 19, 20, 21, 22, 23, 24, 46, 50, 51, 68, 69, 70]
theorem u_kfl_rd_statement_162 (v1 : Int) (v2 : Int) (v3 : Int) (m : mR) : RP (kfl_rd_statement_162 v1 v2 v3 m) (fun z : Int × Int × mR => fr F_kfl_rd_statement_162 A_kfl_rd_statement_162 m z.2.2) := by
  unfold kfl_rd_statement_162
  refine RP_ite (fun h1 => ?_) (fun h1 => ?_)
  · skip
    exact RP_w (u_kfl_rd_statement_175 v1 v2 v3 m) (fun z hz => (fr_s hz fr_0 rfl rfl))
  · skip
    refine RP_ite (fun h2 => ?_) (fun h2 => ?_)
    · skip
      exact RP_w (u_kfl_rd_statement_175 v1 v2 v3 m) (fun z hz => (fr_s hz fr_0 rfl rfl))
    · skip
      exact RP_w (u_kfl_rd_statement_278 v2 v3 m) (fun z hz => (fr_s hz fr_0 rfl rfl))
def F_kfl_rd_statement_103 : List Nat := [205, 206, 207, 208, 209, 210, 211, 212, 213, 220, 228, 229, 230, 231]
def A_kfl_rd_statement_103 : List Nat := [18, 19, 20, 21, 22, 23, 24, 46, 47, 48, 49, 50, 51, 68, 69, 70]
theorem u_kfl_rd_statement_103 (v1 : Int) (v2 : Int) (v3 : Int) (m : mR) : RP (kfl_rd_statement_103 v1 v2 v3 m) (fun z : Int × Int × mR => fr F_kfl_rd_statement_103 A_kfl_rd_statement_103 m z.2.2) := by
  unfold kfl_rd_statement_103
  refine RP_bnd (u_kf_rd_arrayOf v3 m) (fun y22 h1 => ?_)
  have h2 : fr F_kfl_rd_statement_103 A_kfl_rd_statement_103 m y22.2.2 := (fr_s h1 fr_0 rfl rfl)
  refine RP_ite (fun h3 => ?_) (fun h3 => ?_)
  · skip
    refine RP_bnd (u_kf_tx_expect 91 y22.2.2) (fun y25 h4 => ?_)
    have h5 : fr F_kfl_rd_statement_103 A_kfl_rd_statement_103 m y25.2.2 := (fr_s h4 h2 rfl rfl)
    refine RP_ite (fun h6 => ?_) (fun h6 => ?_)
    · skip
      refine RP_bnd (u_kf_fm_whole v1 (mO y25.2.2 [] [(48, upI (y25.2.2.2 48) v3 (y25.2.2.1 220))])) (fun y28 h7 => ?_)
      have h8 : fr F_kfl_rd_statement_103 A_kfl_rd_statement_103 m y28.2.2 := (fr_s h7 (fr_m h5 rfl rfl) rfl rfl)
      refine RP_ite (fun h9 => ?_) (fun h9 => ?_)
      · skip
        refine RP_bnd (u_kf_tx_expect 93 (mO y28.2.2 [] [(49, upI (y28.2.2.2 49) v3 y28.2.1)])) (fun y31 h10 => ?_)
        have h11 : fr F_kfl_rd_statement_103 A_kfl_rd_statement_103 m y31.2.2 := (fr_s h10 (fr_m h8 rfl rfl) rfl rfl)
        refine RP_ite (fun h12 => ?_) (fun h12 => ?_)
        · skip
          exact RP_w (u_kfl_rd_statement_162 v1 v2 v3 y31.2.2) (fun z hz => (fr_s hz h11 rfl rfl))
        · skip
          exact RP_some h11
      · skip
        exact RP_some h8
    · skip
      exact RP_some h5
  · skip
    exact RP_some h2
def F_kfl_rd_statement_89 : List Nat := [205, 206, 207, 208, 209, 210, 211, 212, 213, 220, 228, 229, 230, 231]
def A_kfl_rd_statement_89 : List Nat := [18, 19, 20, 21, 22, 23, 24, 46, 47, 48, 49, 50, 51, 68, 69, 70]
theorem u_kfl_rd_statement_89 (v1 : Int) (v2 : Int) (v3 : Int) (m : mR) : RP (kfl_rd_statement_89 v1 v2 v3 m) (fun z : Int × Int × mR => fr F_kfl_rd_statement_89 A_kfl_rd_statement_89 m z.2.2) := by
  unfold kfl_rd_statement_89
  refine RP_ite (fun h1 => ?_) (fun h1 => ?_)
  · skip
    exact RP_w (u_kfl_rd_statement_103 v1 v2 v3 m) (fun z hz => (fr_s hz fr_0 rfl rfl))
  · skip
    refine RP_ite (fun h2 => ?_) (fun h2 => ?_)
    · skip
      exact RP_w (u_kfl_rd_statement_103 v1 v2 v3 m) (fun z hz => (fr_s hz fr_0 rfl rfl))
    · skip
      exact RP_w (u_kfl_rd_statement_162 v1 v2 v3 m) (fun z hz => (fr_s hz fr_0 rfl rfl))
def F_kfl_rd_statement_74 : List Nat := [205, 206, 207, 208, 209, 210, 211, 212, 213, 220, 228, 229, 230, 231]
def A_kfl_rd_statement_74 : List Nat := [18, 19, 20, 21, 22, 23, 24, 46, 47, 48, 49, 50, 51, 68, 69, 70]
theorem u_kfl_rd_statement_74 (v1 : Int) (v2 : Int) (v3 : Int) (m : mR) : RP (kfl_rd_statement_74 v1 v2 v3 m) (fun z : Int × Int × mR => fr F_kfl_rd_statement_74 A_kfl_rd_statement_74 m z.2.2) := by
  unfold kfl_rd_statement_74
  refine RP_ite (fun h1 => ?_) (fun h1 => ?_)
  · skip
    refine RP_bnd (u_kf_tx_expect 61 m) (fun y37 h2 => ?_)
    have h3 : fr F_kfl_rd_statement_74 A_kfl_rd_statement_74 m y37.2.2 := (fr_s h2 fr_0 rfl rfl)
    refine RP_ite (fun h4 => ?_) (fun h4 => ?_)
    · skip
      exact RP_w (u_kfl_rd_statement_89 v1 v2 v3 y37.2.2) (fun z hz => (fr_s hz h3 rfl rfl))
    · skip
      exact RP_some h3
  · skip
    exact RP_w (u_kfl_rd_statement_89 v1 v2 v3 m) (fun z hz => (fr_s hz fr_0 rfl rfl))
def F_kfl_rd_statement_61 : List Nat := [205, 206, 207, 208, 209, 210, 211, 212, 213, 220, 228, 229, 230, 231]
def A_kfl_rd_statement_61 : List Nat := [18, 19, 20, 21, 22, 23, 24, 46, 47, 48, 49, 50, 51, 68, 69, 70]
theorem u_kfl_rd_statement_61 (v1 : Int) (v2 : Int) (v3 : Int) (m : mR) : RP (kfl_rd_statement_61 v1 v2 v3 m) (fun z : Int × Int × mR => fr F_kfl_rd_statement_61 A_kfl_rd_statement_61 m z.2.2) := by
  unfold kfl_rd_statement_61
  refine RP_bnd (u_kf_rd_writtenSlot m) (fun y40 h1 => ?_)
  have h2 : fr F_kfl_rd_statement_61 A_kfl_rd_statement_61 m y40.2.2 := (fr_s h1 fr_0 rfl rfl)
  refine RP_ite (fun h3 => ?_) (fun h3 => ?_)
  · skip
    exact RP_w (u_kfl_rd_statement_74 v1 v2 v3 (mO y40.2.2 [] [(46, upI (y40.2.2.2 46) v3 y40.2.1)])) (fun z hz => (fr_s hz (fr_m h2 rfl rfl) rfl rfl))
  · skip
    exact RP_some h2
def F_kfl_rd_statement_48 : List Nat := [205, 206, 207, 208, 209, 210, 211, 212, 213, 220, 228, 229, 230, 231]
def A_kfl_rd_statement_48 : List Nat := [18, 19, 20, 21, 22, 23, 24, 46, 47, 48, 49, 50, 51, 68, 69, 70]
theorem u_kfl_rd_statement_48 (v1 : Int) (v2 : Int) (v3 : Int) (m : mR) : RP (kfl_rd_statement_48 v1 v2 v3 m) (fun z : Int × Int × mR => fr F_kfl_rd_statement_48 A_kfl_rd_statement_48 m z.2.2) := by
  unfold kfl_rd_statement_48
  refine RP_ite (fun h1 => ?_) (fun h1 => ?_)
  · skip
    exact RP_w (u_kfl_rd_statement_61 v1 v2 v3 m) (fun z hz => (fr_s hz fr_0 rfl rfl))
  · skip
    refine RP_ite (fun h2 => ?_) (fun h2 => ?_)
    · skip
      exact RP_w (u_kfl_rd_statement_61 v1 v2 v3 m) (fun z hz => (fr_s hz fr_0 rfl rfl))
    · skip
      exact RP_w (u_kfl_rd_statement_74 v1 v2 v3 m) (fun z hz => (fr_s hz fr_0 rfl rfl))
def F_kfl_rd_statement_25 : List Nat := [205, 206, 207, 208, 209, 210, 211, 212, 213, 220, 224, 228, 229, 230, 231]
def A_kfl_rd_statement_25 : List Nat := [18, 19, 20, 21, 22, 23, 24, 45, 46, 47, 48, 49, 50, 51, 68, 69, 70]
theorem u_kfl_rd_statement_25 (v1 : Int) (u0 : Int) (m : mR) : RP (kfl_rd_statement_25 v1 u0 m) (fun z : Int × Int × mR => fr F_kfl_rd_statement_25 A_kfl_rd_statement_25 m z.2.2) := by
  unfold kfl_rd_statement_25
  refine RP_bnd (u_kf_ac_addDeed u0 m) (fun y45 h1 => ?_)
  have h2 : fr F_kfl_rd_statement_25 A_kfl_rd_statement_25 m y45.2 := (fr_s h1 fr_0 rfl rfl)
  refine RP_ite (fun h3 => ?_) (fun h3 => ?_)
  · skip
    exact RP_w (u_kfl_rd_statement_48 v1 u0 y45.1 y45.2) (fun z hz => (fr_s hz h2 rfl rfl))
  · skip
    refine RP_bnd (u_kf_tx_advance y45.2) (fun y49 h4 => ?_)
    have h5 : fr F_kfl_rd_statement_25 A_kfl_rd_statement_25 m y49.2.2 := (fr_s h4 h2 rfl rfl)
    refine RP_ite (fun h6 => ?_) (fun h6 => ?_)
    · skip
      exact RP_w (u_kfl_rd_statement_48 v1 u0 y45.1 y49.2.2) (fun z hz => (fr_s hz h5 rfl rfl))
    · skip
      exact RP_some h5
theorem u_kf_rd_statement (v1 : Int) (m : mR) : RP (kf_rd_statement v1 m) (fun z : Int × Int × mR => fr kF_rd_statement kA_rd_statement m z.2.2) := by
  unfold kf_rd_statement
  refine RP_ite (fun h1 => ?_) (fun h1 => ?_)
  · skip
    exact RP_w (u_kfl_rd_statement_25 v1 61 m) (fun z hz => (fr_s hz fr_0 rfl rfl))
  · skip
    exact RP_w (u_kfl_rd_statement_25 v1 (m.1 206) m) (fun z hz => (fr_s hz fr_0 rfl rfl))
def kF_rd_apply : List Nat := [205, 206, 207, 208, 209, 210, 211, 212]
def kA_rd_apply : List Nat := [55]
def F_kfl_rd_apply_48 : List Nat := [205, 206, 207, 208, 209, 210, 211, 212]
def A_kfl_rd_apply_48 : List Nat := [55]
theorem u_kfl_rd_apply_48 (v1 : Int) (v3 : Int) (m : mR) : RP (kfl_rd_apply_48 v1 v3 m) (fun z : Int × Int × mR => fr F_kfl_rd_apply_48 A_kfl_rd_apply_48 m z.2.2) := by
  unfold kfl_rd_apply_48
  refine RP_bnd (u_kf_tx_expect 59 (mO m [] [(55, upI (m.2 55) v1 v3)])) (fun y1 h1 => ?_)
  have h2 : fr F_kfl_rd_apply_48 A_kfl_rd_apply_48 m y1.2.2 := (fr_s h1 (fr_m fr_0 rfl rfl) rfl rfl)
  refine RP_ite (fun h3 => ?_) (fun h3 => ?_)
  · skip
    exact RP_some h2
  · skip
    exact RP_some h2
theorem u_kf_rd_apply (v1 : Int) (m : mR) : RP (kf_rd_apply v1 m) (fun z : Int × Int × mR => fr kF_rd_apply kA_rd_apply m z.2.2) := by
  unfold kf_rd_apply
  refine RP_bnd (u_kf_tx_advance m) (fun y4 h1 => ?_)
  have h2 : fr kF_rd_apply kA_rd_apply m y4.2.2 := (fr_s h1 fr_0 rfl rfl)
  refine RP_ite (fun h3 => ?_) (fun h3 => ?_)
  · skip
    refine RP_bnd (u_kf_tx_known 310 y4.2.2) (fun y7 h4 => ?_)
    have h5 : fr kF_rd_apply kA_rd_apply m y7.2.2 := (fr_s h4 h2 rfl rfl)
    refine RP_ite (fun h6 => ?_) (fun h6 => ?_)
    · skip
      refine RP_bndT (fun y10 => ?_)
      refine RP_ite (fun h7 => ?_) (fun h7 => ?_)
      · skip
        exact RP_w (u_kfl_rd_apply_48 v1 y7.2.1 y7.2.2) (fun z hz => (fr_s hz h5 rfl rfl))
      · skip
        refine RP_bnd (u_kf_tx_fail 8 (y4.2.2.1 207) y7.2.2) (fun y14 h8 => ?_)
        have h9 : fr kF_rd_apply kA_rd_apply m y14.2.2 := (fr_s h8 h5 rfl rfl)
        refine RP_ite (fun h10 => ?_) (fun h10 => ?_)
        · skip
          exact RP_w (u_kfl_rd_apply_48 v1 y7.2.1 y14.2.2) (fun z hz => (fr_s hz h9 rfl rfl))
        · skip
          exact RP_some h9
    · skip
      exact RP_some h5
  · skip
    exact RP_some h2
def kF_rd_openIf : List Nat := [205, 206, 207, 208, 209, 210, 211, 212, 213, 220, 227, 228, 229, 230, 231]
def kA_rd_openIf : List Nat := [18, 19, 20, 21, 22, 23, 24, 57, 58, 66, 67, 68, 69, 70]
def F_kfl_rd_openIf_90 : List Nat := [205, 206, 207, 208, 209, 210, 211, 212, 227]
def A_kfl_rd_openIf_90 : List Nat := [66, 67]
theorem u_kfl_rd_openIf_90 (v1 : Int) (m : mR) : RP (kfl_rd_openIf_90 v1 m) (fun z : Int × Int × mR => fr F_kfl_rd_openIf_90 A_kfl_rd_openIf_90 m z.2.2) := by
  unfold kfl_rd_openIf_90
  refine RP_bnd (u_kf_tx_expect 123 m) (fun y1 h1 => ?_)
  have h2 : fr F_kfl_rd_openIf_90 A_kfl_rd_openIf_90 m y1.2.2 := (fr_s h1 fr_0 rfl rfl)
  refine RP_ite (fun h3 => ?_) (fun h3 => ?_)
  · skip
    exact RP_some (fr_m h2 rfl rfl)
  · skip
    exact RP_some h2
theorem u_kf_rd_openIf (v1 : Int) (m : mR) : RP (kf_rd_openIf v1 m) (fun z : Int × Int × mR => fr kF_rd_openIf kA_rd_openIf m z.2.2) := by
  unfold kf_rd_openIf
  refine RP_bnd (u_kf_tx_advance m) (fun y4 h1 => ?_)
  have h2 : fr kF_rd_openIf kA_rd_openIf m y4.2.2 := (fr_s h1 fr_0 rfl rfl)
  refine RP_ite (fun h3 => ?_) (fun h3 => ?_)
  · skip
    refine RP_bnd (u_kf_fm_whole (-1) (mO y4.2.2 [] [(57, upI (y4.2.2.2 57) v1 (y4.2.2.1 220))])) (fun y7 h4 => ?_)
    have h5 : fr kF_rd_openIf kA_rd_openIf m y7.2.2 := (fr_s h4 (fr_m h2 rfl rfl) rfl rfl)
    refine RP_ite (fun h6 => ?_) (fun h6 => ?_)
    · skip
      refine RP_bnd (u_kf_fm_mustFit y7.2.1 1 (mO y7.2.2 [] [(58, upI (y7.2.2.2 58) v1 y7.2.1)])) (fun y10 h7 => ?_)
      have h8 : fr kF_rd_openIf kA_rd_openIf m y10.2.2 := (fr_s h7 (fr_m h5 rfl rfl) rfl rfl)
      refine RP_ite (fun h9 => ?_) (fun h9 => ?_)
      · skip
        refine RP_ite (fun h10 => ?_) (fun h10 => ?_)
        · skip
          refine RP_ite (fun h11 => ?_) (fun h11 => ?_)
          · skip
            exact RP_w (u_kfl_rd_openIf_90 v1 y10.2.2) (fun z hz => (fr_s hz h8 rfl rfl))
          · skip
            refine RP_bnd (u_kf_tx_fail 4 (y10.2.2.1 207) y10.2.2) (fun y15 h12 => ?_)
            have h13 : fr kF_rd_openIf kA_rd_openIf m y15.2.2 := (fr_s h12 h8 rfl rfl)
            refine RP_ite (fun h14 => ?_) (fun h14 => ?_)
            · skip
              exact RP_w (u_kfl_rd_openIf_90 v1 y15.2.2) (fun z hz => (fr_s hz h13 rfl rfl))
            · skip
              exact RP_some h13
        · skip
          exact RP_w (u_kfl_rd_openIf_90 v1 y10.2.2) (fun z hz => (fr_s hz h8 rfl rfl))
      · skip
        exact RP_some h8
    · skip
      exact RP_some h5
  · skip
    exact RP_some h2
def kF_rd_closeBlock : List Nat := [205, 206, 207, 208, 209, 210, 211, 212, 227]
def kA_rd_closeBlock : List Nat := [67]
def F_kfl_rd_closeBlock_33 : List Nat := [227]
def A_kfl_rd_closeBlock_33 : List Nat := []
theorem u_kfl_rd_closeBlock_33 (m : mR) : RP (kfl_rd_closeBlock_33 m) (fun z : Int × Int × mR => fr F_kfl_rd_closeBlock_33 A_kfl_rd_closeBlock_33 m z.2.2) := by
  unfold kfl_rd_closeBlock_33
  exact RP_some (fr_m fr_0 rfl rfl)
theorem u_kf_rd_closeBlock (m : mR) : RP (kf_rd_closeBlock m) (fun z : Int × Int × mR => fr kF_rd_closeBlock kA_rd_closeBlock m z.2.2) := by
  unfold kf_rd_closeBlock
  refine RP_bnd (u_kf_tx_advance m) (fun y1 h1 => ?_)
  have h2 : fr kF_rd_closeBlock kA_rd_closeBlock m y1.2.2 := (fr_s h1 fr_0 rfl rfl)
  refine RP_ite (fun h3 => ?_) (fun h3 => ?_)
  · skip
    refine RP_ite (fun h4 => ?_) (fun h4 => ?_)
    · skip
      refine RP_ite (fun h5 => ?_) (fun h5 => ?_)
      · skip
        refine RP_bnd (u_kf_tx_advance y1.2.2) (fun y6 h6 => ?_)
        have h7 : fr kF_rd_closeBlock kA_rd_closeBlock m y6.2.2 := (fr_s h6 h2 rfl rfl)
        refine RP_ite (fun h8 => ?_) (fun h8 => ?_)
        · skip
          refine RP_bnd (u_kf_tx_expect 123 y6.2.2) (fun y9 h9 => ?_)
          have h10 : fr kF_rd_closeBlock kA_rd_closeBlock m y9.2.2 := (fr_s h9 h7 rfl rfl)
          refine RP_ite (fun h11 => ?_) (fun h11 => ?_)
          · skip
            exact RP_some (fr_m h10 rfl rfl)
          · skip
            exact RP_some h10
        · skip
          exact RP_some h7
      · skip
        exact RP_w (u_kfl_rd_closeBlock_33 y1.2.2) (fun z hz => (fr_s hz h2 rfl rfl))
    · skip
      exact RP_w (u_kfl_rd_closeBlock_33 y1.2.2) (fun z hz => (fr_s hz h2 rfl rfl))
  · skip
    exact RP_some h2
def kF_rd_inBlock : List Nat := [205, 206, 207, 208, 209, 210, 211, 212, 213, 220, 224, 225, 227, 228, 229, 230, 231]
def kA_rd_inBlock : List Nat := [18, 19, 20, 21, 22, 23, 24, 45, 46, 47, 48, 49, 50, 51, 52, 53, 54, 55, 56, 57, 58, 66, 67, 68, 69, 70]
def F_kfl_rd_inBlock_121 : List Nat := [205, 206, 207, 208, 209, 210, 211, 212, 213, 220, 224, 225, 227, 228, 229, 230, 231]
def A_kfl_rd_inBlock_121 : List Nat := [18, 19, 20, 21, 22, 23, 24, 45, 46, 47, 48, 49, 50, 51, 52, 53, 54, 55, 56, 57, 58, 66, 67, 68, 69, 70]
theorem u_kfl_rd_inBlock_121 (v1 : Int) (v2 : Int) (u0 : Int) (m : mR) : RP (kfl_rd_inBlock_121 v1 v2 u0 m) (fun z : Int × Int × mR => fr F_kfl_rd_inBlock_121 A_kfl_rd_inBlock_121 m z.2.2) := by
  unfold kfl_rd_inBlock_121
  refine RP_bnd (u_kf_sp_add u0 ((m.2 66) (m.1 227)) ((m.2 67) (m.1 227)) m) (fun y1 h1 => ?_)
  have h2 : fr F_kfl_rd_inBlock_121 A_kfl_rd_inBlock_121 m y1.2 := (fr_s h1 fr_0 rfl rfl)
  refine RP_ite (fun h3 => ?_) (fun h3 => ?_)
  · skip
    refine RP_ite (fun h4 => ?_) (fun h4 => ?_)
    · skip
      refine RP_bnd (u_kf_rd_statement (-1) y1.2) (fun y6 h5 => ?_)
      have h6 : fr F_kfl_rd_inBlock_121 A_kfl_rd_inBlock_121 m y6.2.2 := (fr_s h5 h2 rfl rfl)
      refine RP_ite (fun h7 => ?_) (fun h7 => ?_)
      · skip
        exact RP_some (fr_m h6 rfl rfl)
      · skip
        exact RP_some h6
    · skip
      refine RP_bnd (u_kf_rd_apply y1.1 y1.2) (fun y9 h8 => ?_)
      have h9 : fr F_kfl_rd_inBlock_121 A_kfl_rd_inBlock_121 m y9.2.2 := (fr_s h8 h2 rfl rfl)
      refine RP_ite (fun h10 => ?_) (fun h10 => ?_)
      · skip
        exact RP_some h9
      · skip
        exact RP_some h9
  · skip
    refine RP_bnd (u_kf_rd_openIf y1.1 y1.2) (fun y12 h11 => ?_)
    have h12 : fr F_kfl_rd_inBlock_121 A_kfl_rd_inBlock_121 m y12.2.2 := (fr_s h11 h2 rfl rfl)
    refine RP_ite (fun h13 => ?_) (fun h13 => ?_)
    · skip
      exact RP_some h12
    · skip
      exact RP_some h12
def F_kfl_rd_inBlock_104 : List Nat := [205, 206, 207, 208, 209, 210, 211, 212, 213, 220, 224, 225, 227, 228, 229, 230, 231]
def A_kfl_rd_inBlock_104 : List Nat := [18, 19, 20, 21, 22, 23, 24, 45, 46, 47, 48, 49, 50, 51, 52, 53, 54, 55, 56, 57, 58, 66, 67, 68, 69, 70]
theorem u_kfl_rd_inBlock_104 (v1 : Int) (v2 : Int) (m : mR) : RP (kfl_rd_inBlock_104 v1 v2 m) (fun z : Int × Int × mR => fr F_kfl_rd_inBlock_104 A_kfl_rd_inBlock_104 m z.2.2) := by
  unfold kfl_rd_inBlock_104
  refine RP_ite (fun h1 => ?_) (fun h1 => ?_)
  · skip
    refine RP_ite (fun h2 => ?_) (fun h2 => ?_)
    · skip
      exact RP_w (u_kfl_rd_inBlock_121 v1 v2 0 m) (fun z hz => (fr_s hz fr_0 rfl rfl))
    · skip
      exact RP_w (u_kfl_rd_inBlock_121 v1 v2 2 m) (fun z hz => (fr_s hz fr_0 rfl rfl))
  · skip
    exact RP_w (u_kfl_rd_inBlock_121 v1 v2 1 m) (fun z hz => (fr_s hz fr_0 rfl rfl))
def F_kfl_rd_inBlock_77 : List Nat := [205, 206, 207, 208, 209, 210, 211, 212, 213, 220, 224, 225, 227, 228, 229, 230, 231]
def A_kfl_rd_inBlock_77 : List Nat := [18, 19, 20, 21, 22, 23, 24, 45, 46, 47, 48, 49, 50, 51, 52, 53, 54, 55, 56, 57, 58, 66, 67, 68, 69, 70]
theorem u_kfl_rd_inBlock_77 (v1 : Int) (v2 : Int) (m : mR) : RP (kfl_rd_inBlock_77 v1 v2 m) (fun z : Int × Int × mR => fr F_kfl_rd_inBlock_77 A_kfl_rd_inBlock_77 m z.2.2) := by
  unfold kfl_rd_inBlock_77
  refine RP_ite (fun h1 => ?_) (fun h1 => ?_)
  · skip
    exact RP_w (u_kfl_rd_inBlock_104 v1 v2 m) (fun z hz => (fr_s hz fr_0 rfl rfl))
  · skip
    refine RP_bnd (u_kf_tx_fail 4 (m.1 207) m) (fun y18 h2 => ?_)
    have h3 : fr F_kfl_rd_inBlock_77 A_kfl_rd_inBlock_77 m y18.2.2 := (fr_s h2 fr_0 rfl rfl)
    refine RP_ite (fun h4 => ?_) (fun h4 => ?_)
    · skip
      exact RP_w (u_kfl_rd_inBlock_104 v1 v2 y18.2.2) (fun z hz => (fr_s hz h3 rfl rfl))
    · skip
      exact RP_some h3
def F_kfl_rd_inBlock_37 : List Nat := [205, 206, 207, 208, 209, 210, 211, 212, 213, 220, 224, 225, 227, 228, 229, 230, 231]
def A_kfl_rd_inBlock_37 : List Nat := [18, 19, 20, 21, 22, 23, 24, 45, 46, 47, 48, 49, 50, 51, 52, 53, 54, 55, 56, 57, 58, 66, 67, 68, 69, 70]
theorem u_kfl_rd_inBlock_37 (v1 : Int) (u0 : Int) (m : mR) : RP (kfl_rd_inBlock_37 v1 u0 m) (fun z : Int × Int × mR => fr F_kfl_rd_inBlock_37 A_kfl_rd_inBlock_37 m z.2.2) := by
  unfold kfl_rd_inBlock_37
  refine RP_ite (fun h1 => ?_) (fun h1 => ?_)
  · skip
    refine RP_bnd (u_kf_rd_closeBlock m) (fun y31 h2 => ?_)
    have h3 : fr F_kfl_rd_inBlock_37 A_kfl_rd_inBlock_37 m y31.2.2 := (fr_s h2 fr_0 rfl rfl)
    refine RP_ite (fun h4 => ?_) (fun h4 => ?_)
    · skip
      exact RP_some h3
    · skip
      exact RP_some h3
  · skip
    refine RP_ite (fun h5 => ?_) (fun h5 => ?_)
    · skip
      refine RP_ite (fun h6 => ?_) (fun h6 => ?_)
      · skip
        refine RP_bndT (fun y24 => ?_)
        refine RP_ite (fun h7 => ?_) (fun h7 => ?_)
        · skip
          refine RP_bnd (u_kf_tx_refuse m) (fun y28 h8 => ?_)
          have h9 : fr F_kfl_rd_inBlock_37 A_kfl_rd_inBlock_37 m y28.2.2 := (fr_s h8 fr_0 rfl rfl)
          refine RP_ite (fun h10 => ?_) (fun h10 => ?_)
          · skip
            exact RP_w (u_kfl_rd_inBlock_77 v1 u0 y28.2.2) (fun z hz => (fr_s hz h9 rfl rfl))
          · skip
            exact RP_some h9
        · skip
          exact RP_w (u_kfl_rd_inBlock_77 v1 u0 m) (fun z hz => (fr_s hz fr_0 rfl rfl))
      · skip
        exact RP_w (u_kfl_rd_inBlock_77 v1 u0 m) (fun z hz => (fr_s hz fr_0 rfl rfl))
    · skip
      exact RP_w (u_kfl_rd_inBlock_77 v1 u0 m) (fun z hz => (fr_s hz fr_0 rfl rfl))
def F_kfl_rd_inBlock_18 : List Nat := [205, 206, 207, 208, 209, 210, 211, 212, 213, 220, 224, 225, 227, 228, 229, 230, 231]
def A_kfl_rd_inBlock_18 : List Nat := [18, 19, 20, 21, 22, 23, 24, 45, 46, 47, 48, 49, 50, 51, 52, 53, 54, 55, 56, 57, 58, 66, 67, 68, 69, 70]
theorem u_kfl_rd_inBlock_18 (u0 : Int) (m : mR) : RP (kfl_rd_inBlock_18 u0 m) (fun z : Int × Int × mR => fr F_kfl_rd_inBlock_18 A_kfl_rd_inBlock_18 m z.2.2) := by
  unfold kfl_rd_inBlock_18
  refine RP_ite (fun h1 => ?_) (fun h1 => ?_)
  · skip
    exact RP_w (u_kfl_rd_inBlock_37 u0 1 m) (fun z hz => (fr_s hz fr_0 rfl rfl))
  · skip
    exact RP_w (u_kfl_rd_inBlock_37 u0 0 m) (fun z hz => (fr_s hz fr_0 rfl rfl))
theorem u_kf_rd_inBlock (m : mR) : RP (kf_rd_inBlock m) (fun z : Int × Int × mR => fr kF_rd_inBlock kA_rd_inBlock m z.2.2) := by
  unfold kf_rd_inBlock
  refine RP_ite (fun h1 => ?_) (fun h1 => ?_)
  · skip
    exact RP_w (u_kfl_rd_inBlock_18 1 m) (fun z hz => (fr_s hz fr_0 rfl rfl))
  · skip
    exact RP_w (u_kfl_rd_inBlock_18 0 m) (fun z hz => (fr_s hz fr_0 rfl rfl))
def kF_tx_makeNew : List Nat := [203, 205, 206, 207, 208, 209, 210, 211, 212]
def kA_tx_makeNew : List Nat := [6, 7, 8, 9]
def F_kfl_tx_makeNew_45 : List Nat := [203, 205, 206, 207, 208, 209, 210, 211, 212]
def A_kfl_tx_makeNew_45 : List Nat := [6, 7, 8, 9]
theorem u_kfl_tx_makeNew_45 (v1 : Int) (v2 : Int) (m : mR) : RP (kfl_tx_makeNew_45 v1 v2 m) (fun z : Int × Int × mR => fr F_kfl_tx_makeNew_45 A_kfl_tx_makeNew_45 m z.2.2) := by
  unfold kfl_tx_makeNew_45
  refine RP_bnd (u_kf_tx_makeName v1 v2 m) (fun y1 h1 => ?_)
  have h2 : fr F_kfl_tx_makeNew_45 A_kfl_tx_makeNew_45 m y1.2 := (fr_s h1 fr_0 rfl rfl)
  refine RP_bnd (u_kf_tx_advance y1.2) (fun y4 h3 => ?_)
  have h4 : fr F_kfl_tx_makeNew_45 A_kfl_tx_makeNew_45 m y4.2.2 := (fr_s h3 h2 rfl rfl)
  refine RP_ite (fun h5 => ?_) (fun h5 => ?_)
  · skip
    exact RP_some h4
  · skip
    exact RP_some h4
def F_kfl_tx_makeNew_28 : List Nat := [203, 205, 206, 207, 208, 209, 210, 211, 212]
def A_kfl_tx_makeNew_28 : List Nat := [6, 7, 8, 9]
theorem u_kfl_tx_makeNew_28 (v1 : Int) (v2 : Int) (m : mR) : RP (kfl_tx_makeNew_28 v1 v2 m) (fun z : Int × Int × mR => fr F_kfl_tx_makeNew_28 A_kfl_tx_makeNew_28 m z.2.2) := by
  unfold kfl_tx_makeNew_28
  refine RP_bndT (fun y7 => ?_)
  refine RP_ite (fun h1 => ?_) (fun h1 => ?_)
  · skip
    exact RP_w (u_kfl_tx_makeNew_45 v1 v2 m) (fun z hz => (fr_s hz fr_0 rfl rfl))
  · skip
    refine RP_bnd (u_kf_tx_fail 3 (m.1 207) m) (fun y11 h2 => ?_)
    have h3 : fr F_kfl_tx_makeNew_28 A_kfl_tx_makeNew_28 m y11.2.2 := (fr_s h2 fr_0 rfl rfl)
    refine RP_ite (fun h4 => ?_) (fun h4 => ?_)
    · skip
      exact RP_w (u_kfl_tx_makeNew_45 v1 v2 y11.2.2) (fun z hz => (fr_s hz h3 rfl rfl))
    · skip
      exact RP_some h3
def F_kfl_tx_makeNew_14 : List Nat := [203, 205, 206, 207, 208, 209, 210, 211, 212]
def A_kfl_tx_makeNew_14 : List Nat := [6, 7, 8, 9]
theorem u_kfl_tx_makeNew_14 (v1 : Int) (v2 : Int) (v3 : Int) (m : mR) : RP (kfl_tx_makeNew_14 v1 v2 v3 m) (fun z : Int × Int × mR => fr F_kfl_tx_makeNew_14 A_kfl_tx_makeNew_14 m z.2.2) := by
  unfold kfl_tx_makeNew_14
  refine RP_ite (fun h1 => ?_) (fun h1 => ?_)
  · skip
    exact RP_w (u_kfl_tx_makeNew_28 v1 v2 m) (fun z hz => (fr_s hz fr_0 rfl rfl))
  · skip
    refine RP_bnd (u_kf_tx_fail 4 (m.1 207) m) (fun y15 h2 => ?_)
    have h3 : fr F_kfl_tx_makeNew_14 A_kfl_tx_makeNew_14 m y15.2.2 := (fr_s h2 fr_0 rfl rfl)
    refine RP_ite (fun h4 => ?_) (fun h4 => ?_)
    · skip
      exact RP_w (u_kfl_tx_makeNew_28 v1 v2 y15.2.2) (fun z hz => (fr_s hz h3 rfl rfl))
    · skip
      exact RP_some h3
theorem u_kf_tx_makeNew (v1 : Int) (v2 : Int) (v3 : Int) (m : mR) : RP (kf_tx_makeNew v1 v2 v3 m) (fun z : Int × Int × mR => fr kF_tx_makeNew kA_tx_makeNew m z.2.2) := by
  unfold kf_tx_makeNew
  refine RP_ite (fun h1 => ?_) (fun h1 => ?_)
  · skip
    exact RP_w (u_kfl_tx_makeNew_14 v1 v2 v3 m) (fun z hz => (fr_s hz fr_0 rfl rfl))
  · skip
    refine RP_bnd (u_kf_tx_refuse m) (fun y19 h2 => ?_)
    have h3 : fr kF_tx_makeNew kA_tx_makeNew m y19.2.2 := (fr_s h2 fr_0 rfl rfl)
    refine RP_ite (fun h4 => ?_) (fun h4 => ?_)
    · skip
      exact RP_w (u_kfl_tx_makeNew_14 v1 v2 v3 y19.2.2) (fun z hz => (fr_s hz h3 rfl rfl))
    · skip
      exact RP_some h3
def kF_Arrays_fill1_b84 : List Nat := []
def kA_Arrays_fill1_b84 : List Nat := [84]
def F_kfb_Arrays_fill1_b84_6 : List Nat := []
def A_kfb_Arrays_fill1_b84_6 : List Nat := [84]
theorem u_kfb_Arrays_fill1_b84_6 (v0 : Int) (v1 : Int) (v4 : Int) (s : Int × mR) : RP (kfb_Arrays_fill1_b84_6 v0 v1 v4 s) (sel (fun z : (Int × mR) => fr F_kfb_Arrays_fill1_b84_6 A_kfb_Arrays_fill1_b84_6 s.2 z.2) (fun z : mR => fr F_kfb_Arrays_fill1_b84_6 A_kfb_Arrays_fill1_b84_6 s.2 z)) := by
  unfold kfb_Arrays_fill1_b84_6
  refine RP_ite (fun h1 => ?_) (fun h1 => ?_)
  · skip
    exact RP_some fr_0
  · skip
    exact RP_some (fr_m fr_0 rfl rfl)
theorem uw_kfb_Arrays_fill1_b84_6 (v0 : Int) (v1 : Int) (v4 : Int) (s : Int × mR) : RP (whl (kfb_Arrays_fill1_b84_6 v0 v1 v4) s) (fun z : mR => fr F_kfb_Arrays_fill1_b84_6 A_kfb_Arrays_fill1_b84_6 s.2 z) := RP_whl (I := fun q : Int × mR => fr F_kfb_Arrays_fill1_b84_6 A_kfb_Arrays_fill1_b84_6 s.2 q.2) (fun q hq => RP_w (u_kfb_Arrays_fill1_b84_6 v0 v1 v4 q) (sl_w (fun z hz => (fr_s hz hq rfl rfl)) (fun z hz => (fr_s hz hq rfl rfl)))) fr_0
theorem u_kf_Arrays_fill1_b84 (v0 : Int) (v1 : Int) (m : mR) : RP (kf_Arrays_fill1_b84 v0 v1 m) (fun z : Int × mR => fr kF_Arrays_fill1_b84 kA_Arrays_fill1_b84 m z.2) := by
  unfold kf_Arrays_fill1_b84
  refine RP_bnd (uw_kfb_Arrays_fill1_b84_6 v0 v1 4 (0, m)) (fun e4 h1 => ?_)
  have h2 : fr kF_Arrays_fill1_b84 kA_Arrays_fill1_b84 m e4 := (fr_s h1 fr_0 rfl rfl)
  exact RP_some h2
def kF_tb_clear : List Nat := []
def kA_tb_clear : List Nat := [72, 73, 75, 76, 77, 78, 84]
theorem u_kf_tb_clear (v0 : Int) (m : mR) : RP (kf_tb_clear v0 m) (fun z : Int × mR => fr kF_tb_clear kA_tb_clear m z.2) := by
  unfold kf_tb_clear
  refine RP_bnd (u_kf_Arrays_fill1_b84 v0 0 (mO m [] [(72, upI (m.2 72) v0 0), (73, upI (m.2 73) v0 0), (75, upI (m.2 75) v0 1), (76, upI (m.2 76) v0 0), (77, upI (m.2 77) v0 0), (78, upI (m.2 78) v0 0)])) (fun y1 h1 => ?_)
  have h2 : fr kF_tb_clear kA_tb_clear m y1.2 := (fr_s h1 (fr_m fr_0 rfl rfl) rfl rfl)
  exact RP_some h2
def kF_rd_fittingNumber : List Nat := [205, 206, 207, 208, 209, 210, 211, 212]
def kA_rd_fittingNumber : List Nat := []
def F_kfl_rd_fittingNumber_53 : List Nat := []
def A_kfl_rd_fittingNumber_53 : List Nat := []
theorem u_kfl_rd_fittingNumber_53 (v2 : Int) (m : mR) : RP (kfl_rd_fittingNumber_53 v2 m) (fun z : Int × Int × mR => fr F_kfl_rd_fittingNumber_53 A_kfl_rd_fittingNumber_53 m z.2.2) := by
  unfold kfl_rd_fittingNumber_53
  exact RP_some fr_0
theorem u_kf_rd_fittingNumber (v1 : Int) (m : mR) : RP (kf_rd_fittingNumber v1 m) (fun z : Int × Int × mR => fr kF_rd_fittingNumber kA_rd_fittingNumber m z.2.2) := by
  unfold kf_rd_fittingNumber
  refine RP_bnd (u_kf_tx_expect 257 m) (fun y1 h1 => ?_)
  have h2 : fr kF_rd_fittingNumber kA_rd_fittingNumber m y1.2.2 := (fr_s h1 fr_0 rfl rfl)
  refine RP_ite (fun h3 => ?_) (fun h3 => ?_)
  · skip
    refine RP_bndT (fun y4 => ?_)
    refine RP_ite (fun h4 => ?_) (fun h4 => ?_)
    · skip
      exact RP_w (u_kfl_rd_fittingNumber_53 (m.1 208) y1.2.2) (fun z hz => (fr_s hz h2 rfl rfl))
    · skip
      refine RP_bnd (u_kf_tx_fail 7 (m.1 207) y1.2.2) (fun y8 h5 => ?_)
      have h6 : fr kF_rd_fittingNumber kA_rd_fittingNumber m y8.2.2 := (fr_s h5 h2 rfl rfl)
      refine RP_ite (fun h7 => ?_) (fun h7 => ?_)
      · skip
        exact RP_w (u_kfl_rd_fittingNumber_53 (m.1 208) y8.2.2) (fun z hz => (fr_s hz h6 rfl rfl))
      · skip
        exact RP_some h6
  · skip
    exact RP_some h2
def kF_rd_defaultLine : List Nat := [205, 206, 207, 208, 209, 210, 211, 212]
def kA_rd_defaultLine : List Nat := [74, 84]
def F_kfl_rd_defaultLine_188 : List Nat := [205, 206, 207, 208, 209, 210, 211, 212]
def A_kfl_rd_defaultLine_188 : List Nat := []
theorem u_kfl_rd_defaultLine_188 (m : mR) : RP (kfl_rd_defaultLine_188 m) (fun z : Int × Int × mR => fr F_kfl_rd_defaultLine_188 A_kfl_rd_defaultLine_188 m z.2.2) := by
  unfold kfl_rd_defaultLine_188
  refine RP_bnd (u_kf_tx_expect 41 m) (fun y3 h1 => ?_)
  have h2 : fr F_kfl_rd_defaultLine_188 A_kfl_rd_defaultLine_188 m y3.2.2 := (fr_s h1 fr_0 rfl rfl)
  refine RP_ite (fun h3 => ?_) (fun h3 => ?_)
  · skip
    refine RP_bnd (u_kf_tx_expect 59 y3.2.2) (fun y6 h4 => ?_)
    have h5 : fr F_kfl_rd_defaultLine_188 A_kfl_rd_defaultLine_188 m y6.2.2 := (fr_s h4 h2 rfl rfl)
    refine RP_ite (fun h6 => ?_) (fun h6 => ?_)
    · skip
      exact RP_some h5
    · skip
      exact RP_some h5
  · skip
    exact RP_some h2
def F_kfl_rd_defaultLine_159 : List Nat := [205, 206, 207, 208, 209, 210, 211, 212]
def A_kfl_rd_defaultLine_159 : List Nat := []
theorem u_kfl_rd_defaultLine_159 (v2 : Int) (v4 : Int) (v5 : Int) (m : mR) : RP (kfl_rd_defaultLine_159 v2 v4 v5 m) (fun z : Int × Int × mR => fr F_kfl_rd_defaultLine_159 A_kfl_rd_defaultLine_159 m z.2.2) := by
  unfold kfl_rd_defaultLine_159
  refine RP_ite (fun h1 => ?_) (fun h1 => ?_)
  · skip
    refine RP_ite (fun h2 => ?_) (fun h2 => ?_)
    · skip
      exact RP_w (u_kfl_rd_defaultLine_188 m) (fun z hz => (fr_s hz fr_0 rfl rfl))
    · skip
      refine RP_bnd (u_kf_tx_fail 8 v2 m) (fun y11 h3 => ?_)
      have h4 : fr F_kfl_rd_defaultLine_159 A_kfl_rd_defaultLine_159 m y11.2.2 := (fr_s h3 fr_0 rfl rfl)
      refine RP_ite (fun h5 => ?_) (fun h5 => ?_)
      · skip
        exact RP_w (u_kfl_rd_defaultLine_188 y11.2.2) (fun z hz => (fr_s hz h4 rfl rfl))
      · skip
        exact RP_some h4
  · skip
    exact RP_w (u_kfl_rd_defaultLine_188 m) (fun z hz => (fr_s hz fr_0 rfl rfl))
def F_kfl_rd_defaultLine_144 : List Nat := [205, 206, 207, 208, 209, 210, 211, 212]
def A_kfl_rd_defaultLine_144 : List Nat := []
theorem u_kfl_rd_defaultLine_144 (v1 : Int) (v2 : Int) (v3 : Int) (v4 : Int) (v5 : Int) (v7 : Int) (m : mR) : RP (kfl_rd_defaultLine_144 v1 v2 v3 v4 v5 v7 m) (sel (fun z : (Int × Int × Int × mR) => fr F_kfl_rd_defaultLine_144 A_kfl_rd_defaultLine_144 m z.2.2.2) (sel (fun z : (Int × mR) => fr F_kfl_rd_defaultLine_144 A_kfl_rd_defaultLine_144 m z.2) (fun z : Int × mR => fr F_kfl_rd_defaultLine_144 A_kfl_rd_defaultLine_144 m z.2))) := by
  unfold kfl_rd_defaultLine_144
  refine RP_bnd (u_kf_rd_goesOnList m) (fun y14 h1 => ?_)
  have h2 : fr F_kfl_rd_defaultLine_144 A_kfl_rd_defaultLine_144 m y14.2.2 := (fr_s h1 fr_0 rfl rfl)
  refine RP_ite (fun h3 => ?_) (fun h3 => ?_)
  · skip
    exact RP_some h2
  · skip
    exact RP_some h2
def F_kfl_rd_defaultLine_120 : List Nat := [205, 206, 207, 208, 209, 210, 211, 212]
def A_kfl_rd_defaultLine_120 : List Nat := [84]
theorem u_kfl_rd_defaultLine_120 (v1 : Int) (v2 : Int) (v3 : Int) (v4 : Int) (v5 : Int) (v7 : Int) (v8 : Int) (u0 : Int) (m : mR) : RP (kfl_rd_defaultLine_120 v1 v2 v3 v4 v5 v7 v8 u0 m) (sel (fun z : (Int × Int × Int × mR) => fr F_kfl_rd_defaultLine_120 A_kfl_rd_defaultLine_120 m z.2.2.2) (sel (fun z : (Int × mR) => fr F_kfl_rd_defaultLine_120 A_kfl_rd_defaultLine_120 m z.2) (fun z : Int × mR => fr F_kfl_rd_defaultLine_120 A_kfl_rd_defaultLine_120 m z.2))) := by
  unfold kfl_rd_defaultLine_120
  refine RP_bnd (u_kf_rd_fittingNumber u0 m) (fun y17 h1 => ?_)
  have h2 : fr F_kfl_rd_defaultLine_120 A_kfl_rd_defaultLine_120 m y17.2.2 := (fr_s h1 fr_0 rfl rfl)
  refine RP_ite (fun h3 => ?_) (fun h3 => ?_)
  · skip
    refine RP_ite (fun h4 => ?_) (fun h4 => ?_)
    · skip
      exact RP_w (u_kfl_rd_defaultLine_144 v1 v2 v3 v4 v5 v7 y17.2.2) (sl_w (fun z hz => (fr_s hz h2 rfl rfl)) (sl_w (fun z hz => (fr_s hz h2 rfl rfl)) (fun z hz => (fr_s hz h2 rfl rfl))))
    · skip
      exact RP_w (u_kfl_rd_defaultLine_144 v1 v2 v3 v4 v5 v7 (mO y17.2.2 [] [(84, upI (y17.2.2.2 84) (65536 * v1 + v5) y17.2.1)])) (sl_w (fun z hz => (fr_s hz (fr_m h2 rfl rfl) rfl rfl)) (sl_w (fun z hz => (fr_s hz (fr_m h2 rfl rfl) rfl rfl)) (fun z hz => (fr_s hz (fr_m h2 rfl rfl) rfl rfl))))
  · skip
    exact RP_some h2
def F_kfl_rd_defaultLine_94 : List Nat := [205, 206, 207, 208, 209, 210, 211, 212]
def A_kfl_rd_defaultLine_94 : List Nat := [84]
theorem u_kfl_rd_defaultLine_94 (v1 : Int) (v2 : Int) (v3 : Int) (v4 : Int) (v5 : Int) (v7 : Int) (u0 : Int) (m : mR) : RP (kfl_rd_defaultLine_94 v1 v2 v3 v4 v5 v7 u0 m) (sel (fun z : (Int × Int × Int × mR) => fr F_kfl_rd_defaultLine_94 A_kfl_rd_defaultLine_94 m z.2.2.2) (sel (fun z : (Int × mR) => fr F_kfl_rd_defaultLine_94 A_kfl_rd_defaultLine_94 m z.2) (fun z : Int × mR => fr F_kfl_rd_defaultLine_94 A_kfl_rd_defaultLine_94 m z.2))) := by
  unfold kfl_rd_defaultLine_94
  refine RP_ite (fun h1 => ?_) (fun h1 => ?_)
  · skip
    exact RP_w (u_kfl_rd_defaultLine_120 v1 v2 v3 v4 v5 v7 u0 64 m) (sl_w (fun z hz => (fr_s hz fr_0 rfl rfl)) (sl_w (fun z hz => (fr_s hz fr_0 rfl rfl)) (fun z hz => (fr_s hz fr_0 rfl rfl))))
  · skip
    exact RP_w (u_kfl_rd_defaultLine_120 v1 v2 v3 v4 v5 v7 u0 ((m.2 40) (cut ((cut (v3 * 4)) + v5))) m) (sl_w (fun z hz => (fr_s hz fr_0 rfl rfl)) (sl_w (fun z hz => (fr_s hz fr_0 rfl rfl)) (fun z hz => (fr_s hz fr_0 rfl rfl))))
def F_kfb_rd_defaultLine_69 : List Nat := [205, 206, 207, 208, 209, 210, 211, 212]
def A_kfb_rd_defaultLine_69 : List Nat := [84]
theorem u_kfb_rd_defaultLine_69 (v1 : Int) (v2 : Int) (v3 : Int) (v4 : Int) (s : Int × Int × Int × mR) : RP (kfb_rd_defaultLine_69 v1 v2 v3 v4 s) (sel (fun z : (Int × Int × Int × mR) => fr F_kfb_rd_defaultLine_69 A_kfb_rd_defaultLine_69 s.2.2.2 z.2.2.2) (sel (fun z : (Int × mR) => fr F_kfb_rd_defaultLine_69 A_kfb_rd_defaultLine_69 s.2.2.2 z.2) (fun z : Int × mR => fr F_kfb_rd_defaultLine_69 A_kfb_rd_defaultLine_69 s.2.2.2 z.2))) := by
  unfold kfb_rd_defaultLine_69
  refine RP_ite (fun h1 => ?_) (fun h1 => ?_)
  · skip
    exact RP_some fr_0
  · skip
    refine RP_ite (fun h2 => ?_) (fun h2 => ?_)
    · skip
      exact RP_some fr_0
    · skip
      refine RP_ite (fun h3 => ?_) (fun h3 => ?_)
      · skip
        exact RP_w (u_kfl_rd_defaultLine_94 v1 v2 v3 v4 s.1 s.2.2.1 0 s.2.2.2) (sl_w (fun z hz => (fr_s hz fr_0 rfl rfl)) (sl_w (fun z hz => (fr_s hz fr_0 rfl rfl)) (fun z hz => (fr_s hz fr_0 rfl rfl))))
      · skip
        exact RP_w (u_kfl_rd_defaultLine_94 v1 v2 v3 v4 s.1 s.2.2.1 1 s.2.2.2) (sl_w (fun z hz => (fr_s hz fr_0 rfl rfl)) (sl_w (fun z hz => (fr_s hz fr_0 rfl rfl)) (fun z hz => (fr_s hz fr_0 rfl rfl))))
theorem uw_kfb_rd_defaultLine_69 (v1 : Int) (v2 : Int) (v3 : Int) (v4 : Int) (s : Int × Int × Int × mR) : RP (whl (kfb_rd_defaultLine_69 v1 v2 v3 v4) s) (sel (fun z : ((Int × mR)) => fr F_kfb_rd_defaultLine_69 A_kfb_rd_defaultLine_69 s.2.2.2 z.2) (fun z : Int × mR => fr F_kfb_rd_defaultLine_69 A_kfb_rd_defaultLine_69 s.2.2.2 z.2)) := RP_whl (I := fun q : Int × Int × Int × mR => fr F_kfb_rd_defaultLine_69 A_kfb_rd_defaultLine_69 s.2.2.2 q.2.2.2) (fun q hq => RP_w (u_kfb_rd_defaultLine_69 v1 v2 v3 v4 q) (sl_w (fun z hz => (fr_s hz hq rfl rfl)) (sl_w (fun z hz => (fr_s hz hq rfl rfl)) (fun z hz => (fr_s hz hq rfl rfl))))) fr_0
def F_kfl_rd_defaultLine_64 : List Nat := [205, 206, 207, 208, 209, 210, 211, 212]
def A_kfl_rd_defaultLine_64 : List Nat := [84]
theorem u_kfl_rd_defaultLine_64 (v1 : Int) (v2 : Int) (v3 : Int) (v4 : Int) (v5 : Int) (u0 : Int) (m : mR) : RP (kfl_rd_defaultLine_64 v1 v2 v3 v4 v5 u0 m) (fun z : Int × Int × mR => fr F_kfl_rd_defaultLine_64 A_kfl_rd_defaultLine_64 m z.2.2) := by
  unfold kfl_rd_defaultLine_64
  refine RP_bnd (uw_kfb_rd_defaultLine_69 v1 v2 v3 v4 (v5, u0, 0, m)) (RP_sl (fun e27 h1 => ?_) (fun e31 h3 => ?_))
  · skip
    have h2 : fr F_kfl_rd_defaultLine_64 A_kfl_rd_defaultLine_64 m e27.2 := (fr_s h1 fr_0 rfl rfl)
    exact RP_w (u_kfl_rd_defaultLine_159 v2 v4 e27.1 e27.2) (fun z hz => (fr_s hz h2 rfl rfl))
  · skip
    have h4 : fr F_kfl_rd_defaultLine_64 A_kfl_rd_defaultLine_64 m e31.2 := (fr_s h3 fr_0 rfl rfl)
    exact RP_some h4
theorem u_kf_rd_defaultLine (v1 : Int) (m : mR) : RP (kf_rd_defaultLine v1 m) (fun z : Int × Int × mR => fr kF_rd_defaultLine kA_rd_defaultLine m z.2.2) := by
  unfold kf_rd_defaultLine
  refine RP_bnd (u_kf_tx_known 309 m) (fun y33 h1 => ?_)
  have h2 : fr kF_rd_defaultLine kA_rd_defaultLine m y33.2.2 := (fr_s h1 fr_0 rfl rfl)
  refine RP_ite (fun h3 => ?_) (fun h3 => ?_)
  · skip
    refine RP_bnd (u_kf_tx_expect 40 (mO y33.2.2 [] [(74, upI (y33.2.2.2 74) v1 y33.2.1)])) (fun y36 h4 => ?_)
    have h5 : fr kF_rd_defaultLine kA_rd_defaultLine m y36.2.2 := (fr_s h4 (fr_m h2 rfl rfl) rfl rfl)
    refine RP_ite (fun h6 => ?_) (fun h6 => ?_)
    · skip
      refine RP_ite (fun h7 => ?_) (fun h7 => ?_)
      · skip
        exact RP_w (u_kfl_rd_defaultLine_64 v1 (m.1 207) y33.2.1 ((y36.2.2.2 39) y33.2.1) 0 0 y36.2.2) (fun z hz => (fr_s hz h5 rfl rfl))
      · skip
        exact RP_w (u_kfl_rd_defaultLine_64 v1 (m.1 207) y33.2.1 ((y36.2.2.2 39) y33.2.1) 0 1 y36.2.2) (fun z hz => (fr_s hz h5 rfl rfl))
    · skip
      exact RP_some h5
  · skip
    exact RP_some h2
def kF_rd_roomLine : List Nat := [205, 206, 207, 208, 209, 210, 211, 212]
def kA_rd_roomLine : List Nat := [75, 76, 77]
def F_kfl_rd_roomLine_171 : List Nat := [205, 206, 207, 208, 209, 210, 211, 212]
def A_kfl_rd_roomLine_171 : List Nat := []
theorem u_kfl_rd_roomLine_171 (m : mR) : RP (kfl_rd_roomLine_171 m) (fun z : Int × Int × mR => fr F_kfl_rd_roomLine_171 A_kfl_rd_roomLine_171 m z.2.2) := by
  unfold kfl_rd_roomLine_171
  refine RP_bnd (u_kf_tx_expect 59 m) (fun y1 h1 => ?_)
  have h2 : fr F_kfl_rd_roomLine_171 A_kfl_rd_roomLine_171 m y1.2.2 := (fr_s h1 fr_0 rfl rfl)
  refine RP_ite (fun h3 => ?_) (fun h3 => ?_)
  · skip
    exact RP_some h2
  · skip
    exact RP_some h2
def F_kfl_rd_roomLine_114 : List Nat := [205, 206, 207, 208, 209, 210, 211, 212]
def A_kfl_rd_roomLine_114 : List Nat := [75, 76, 77]
theorem u_kfl_rd_roomLine_114 (v1 : Int) (v2 : Int) (u0 : Int) (u2 : Int) (u3 : Int) (m : mR) : RP (kfl_rd_roomLine_114 v1 v2 u0 u2 u3 m) (fun z : Int × Int × mR => fr F_kfl_rd_roomLine_114 A_kfl_rd_roomLine_114 m z.2.2) := by
  unfold kfl_rd_roomLine_114
  refine RP_bnd (u_kf_tx_within u2 u3 m) (fun y4 h1 => ?_)
  have h2 : fr F_kfl_rd_roomLine_114 A_kfl_rd_roomLine_114 m y4.2.2 := (fr_s h1 fr_0 rfl rfl)
  refine RP_ite (fun h3 => ?_) (fun h3 => ?_)
  · skip
    refine RP_ite (fun h4 => ?_) (fun h4 => ?_)
    · skip
      exact RP_w (u_kfl_rd_roomLine_171 (mO y4.2.2 [] [(75, upI (y4.2.2.2 75) u0 y4.2.1)])) (fun z hz => (fr_s hz (fr_m h2 rfl rfl) rfl rfl))
    · skip
      refine RP_bnd (u_kf_tx_expect 317 (mO y4.2.2 [] [(75, upI (y4.2.2.2 75) u0 y4.2.1)])) (fun y8 h5 => ?_)
      have h6 : fr F_kfl_rd_roomLine_114 A_kfl_rd_roomLine_114 m y8.2.2 := (fr_s h5 (fr_m h2 rfl rfl) rfl rfl)
      refine RP_ite (fun h7 => ?_) (fun h7 => ?_)
      · skip
        refine RP_bnd (u_kf_tx_within 1 4 y8.2.2) (fun y11 h8 => ?_)
        have h9 : fr F_kfl_rd_roomLine_114 A_kfl_rd_roomLine_114 m y11.2.2 := (fr_s h8 h6 rfl rfl)
        refine RP_ite (fun h10 => ?_) (fun h10 => ?_)
        · skip
          refine RP_bnd (u_kf_tx_expect 318 (mO y11.2.2 [] [(76, upI (y11.2.2.2 76) v1 y11.2.1)])) (fun y14 h11 => ?_)
          have h12 : fr F_kfl_rd_roomLine_114 A_kfl_rd_roomLine_114 m y14.2.2 := (fr_s h11 (fr_m h9 rfl rfl) rfl rfl)
          refine RP_ite (fun h13 => ?_) (fun h13 => ?_)
          · skip
            refine RP_bnd (u_kf_tx_within 0 8 y14.2.2) (fun y17 h14 => ?_)
            have h15 : fr F_kfl_rd_roomLine_114 A_kfl_rd_roomLine_114 m y17.2.2 := (fr_s h14 h12 rfl rfl)
            refine RP_ite (fun h16 => ?_) (fun h16 => ?_)
            · skip
              exact RP_w (u_kfl_rd_roomLine_171 (mO y17.2.2 [] [(77, upI (y17.2.2.2 77) v1 y17.2.1)])) (fun z hz => (fr_s hz (fr_m h15 rfl rfl) rfl rfl))
            · skip
              exact RP_some h15
          · skip
            exact RP_some h12
        · skip
          exact RP_some h9
      · skip
        exact RP_some h6
  · skip
    exact RP_some h2
def F_kfl_rd_roomLine_97 : List Nat := [205, 206, 207, 208, 209, 210, 211, 212]
def A_kfl_rd_roomLine_97 : List Nat := [75, 76, 77]
theorem u_kfl_rd_roomLine_97 (v1 : Int) (v2 : Int) (m : mR) : RP (kfl_rd_roomLine_97 v1 v2 m) (fun z : Int × Int × mR => fr F_kfl_rd_roomLine_97 A_kfl_rd_roomLine_97 m z.2.2) := by
  unfold kfl_rd_roomLine_97
  refine RP_ite (fun h1 => ?_) (fun h1 => ?_)
  · skip
    exact RP_w (u_kfl_rd_roomLine_114 v1 v2 v1 1 32 m) (fun z hz => (fr_s hz fr_0 rfl rfl))
  · skip
    exact RP_w (u_kfl_rd_roomLine_114 v1 v2 v1 1 16 m) (fun z hz => (fr_s hz fr_0 rfl rfl))
def F_kfl_rd_roomLine_72 : List Nat := [205, 206, 207, 208, 209, 210, 211, 212]
def A_kfl_rd_roomLine_72 : List Nat := [75, 76, 77]
theorem u_kfl_rd_roomLine_72 (v1 : Int) (v2 : Int) (v3 : Int) (v4 : Int) (u0 : Int) (m : mR) : RP (kfl_rd_roomLine_72 v1 v2 v3 v4 u0 m) (fun z : Int × Int × mR => fr F_kfl_rd_roomLine_72 A_kfl_rd_roomLine_72 m z.2.2) := by
  unfold kfl_rd_roomLine_72
  refine RP_ite (fun h1 => ?_) (fun h1 => ?_)
  · skip
    exact RP_w (u_kfl_rd_roomLine_97 v1 v2 m) (fun z hz => (fr_s hz fr_0 rfl rfl))
  · skip
    refine RP_ite (fun h2 => ?_) (fun h2 => ?_)
    · skip
      exact RP_w (u_kfl_rd_roomLine_97 v1 v2 m) (fun z hz => (fr_s hz fr_0 rfl rfl))
    · skip
      refine RP_ite (fun h3 => ?_) (fun h3 => ?_)
      · skip
        refine RP_bnd (u_kf_tx_fail 5 v3 m) (fun y24 h4 => ?_)
        have h5 : fr F_kfl_rd_roomLine_72 A_kfl_rd_roomLine_72 m y24.2.2 := (fr_s h4 fr_0 rfl rfl)
        refine RP_ite (fun h6 => ?_) (fun h6 => ?_)
        · skip
          exact RP_w (u_kfl_rd_roomLine_97 v1 v2 y24.2.2) (fun z hz => (fr_s hz h5 rfl rfl))
        · skip
          exact RP_some h5
      · skip
        exact RP_w (u_kfl_rd_roomLine_97 v1 v2 m) (fun z hz => (fr_s hz fr_0 rfl rfl))
def F_kfl_rd_roomLine_71 : List Nat := [205, 206, 207, 208, 209, 210, 211, 212]
def A_kfl_rd_roomLine_71 : List Nat := [75, 76, 77]
theorem u_kfl_rd_roomLine_71 (v1 : Int) (v2 : Int) (v3 : Int) (v4 : Int) (m : mR) : RP (kfl_rd_roomLine_71 v1 v2 v3 v4 m) (fun z : Int × Int × mR => fr F_kfl_rd_roomLine_71 A_kfl_rd_roomLine_71 m z.2.2) := by
  unfold kfl_rd_roomLine_71
  exact RP_w (u_kfl_rd_roomLine_72 v1 v2 v3 v4 0 m) (fun z hz => (fr_s hz fr_0 rfl rfl))
def F_kfl_rd_roomLine_31 : List Nat := [205, 206, 207, 208, 209, 210, 211, 212]
def A_kfl_rd_roomLine_31 : List Nat := [75, 76, 77]
theorem u_kfl_rd_roomLine_31 (v1 : Int) (v2 : Int) (v3 : Int) (u0 : Int) (m : mR) : RP (kfl_rd_roomLine_31 v1 v2 v3 u0 m) (fun z : Int × Int × mR => fr F_kfl_rd_roomLine_31 A_kfl_rd_roomLine_31 m z.2.2) := by
  unfold kfl_rd_roomLine_31
  refine RP_ite (fun h1 => ?_) (fun h1 => ?_)
  · skip
    exact RP_w (u_kfl_rd_roomLine_71 v1 v2 v3 u0 m) (fun z hz => (fr_s hz fr_0 rfl rfl))
  · skip
    refine RP_ite (fun h2 => ?_) (fun h2 => ?_)
    · skip
      exact RP_w (u_kfl_rd_roomLine_72 v1 v2 v3 u0 1 m) (fun z hz => (fr_s hz fr_0 rfl rfl))
    · skip
      exact RP_w (u_kfl_rd_roomLine_71 v1 v2 v3 u0 m) (fun z hz => (fr_s hz fr_0 rfl rfl))
theorem u_kf_rd_roomLine (v1 : Int) (m : mR) : RP (kf_rd_roomLine v1 m) (fun z : Int × Int × mR => fr kF_rd_roomLine kA_rd_roomLine m z.2.2) := by
  unfold kf_rd_roomLine
  refine RP_bndT (fun y29 => ?_)
  refine RP_ite (fun h1 => ?_) (fun h1 => ?_)
  · skip
    exact RP_w (u_kfl_rd_roomLine_31 v1 y29 (m.1 207) 1 m) (fun z hz => (fr_s hz fr_0 rfl rfl))
  · skip
    exact RP_w (u_kfl_rd_roomLine_31 v1 y29 (m.1 207) 0 m) (fun z hz => (fr_s hz fr_0 rfl rfl))
def kF_rd_listedAction : List Nat := [205, 206, 207, 208, 209, 210, 211, 212]
def kA_rd_listedAction : List Nat := [73, 83]
def F_kfl_rd_listedAction_67 : List Nat := []
def A_kfl_rd_listedAction_67 : List Nat := [73, 83]
theorem u_kfl_rd_listedAction_67 (v1 : Int) (v2 : Int) (v4 : Int) (m : mR) : RP (kfl_rd_listedAction_67 v1 v2 v4 m) (fun z : Int × Int × mR => fr F_kfl_rd_listedAction_67 A_kfl_rd_listedAction_67 m z.2.2) := by
  unfold kfl_rd_listedAction_67
  exact RP_some (fr_m fr_0 rfl rfl)
def F_kfl_rd_listedAction_36 : List Nat := [205, 206, 207, 208, 209, 210, 211, 212]
def A_kfl_rd_listedAction_36 : List Nat := [73, 83]
theorem u_kfl_rd_listedAction_36 (v1 : Int) (v2 : Int) (v3 : Int) (m : mR) : RP (kfl_rd_listedAction_36 v1 v2 v3 m) (fun z : Int × Int × mR => fr F_kfl_rd_listedAction_36 A_kfl_rd_listedAction_36 m z.2.2) := by
  unfold kfl_rd_listedAction_36
  refine RP_bnd (u_kf_tx_known 309 m) (fun y1 h1 => ?_)
  have h2 : fr F_kfl_rd_listedAction_36 A_kfl_rd_listedAction_36 m y1.2.2 := (fr_s h1 fr_0 rfl rfl)
  refine RP_ite (fun h3 => ?_) (fun h3 => ?_)
  · skip
    refine RP_bndT (fun y4 => ?_)
    refine RP_ite (fun h4 => ?_) (fun h4 => ?_)
    · skip
      exact RP_w (u_kfl_rd_listedAction_67 v1 v2 y1.2.1 y1.2.2) (fun z hz => (fr_s hz h2 rfl rfl))
    · skip
      refine RP_bnd (u_kf_tx_fail 8 v3 y1.2.2) (fun y8 h5 => ?_)
      have h6 : fr F_kfl_rd_listedAction_36 A_kfl_rd_listedAction_36 m y8.2.2 := (fr_s h5 h2 rfl rfl)
      refine RP_ite (fun h7 => ?_) (fun h7 => ?_)
      · skip
        exact RP_w (u_kfl_rd_listedAction_67 v1 v2 y1.2.1 y8.2.2) (fun z hz => (fr_s hz h6 rfl rfl))
      · skip
        exact RP_some h6
  · skip
    exact RP_some h2
theorem u_kf_rd_listedAction (v1 : Int) (v2 : Int) (m : mR) : RP (kf_rd_listedAction v1 v2 m) (fun z : Int × Int × mR => fr kF_rd_listedAction kA_rd_listedAction m z.2.2) := by
  unfold kf_rd_listedAction
  refine RP_ite (fun h1 => ?_) (fun h1 => ?_)
  · skip
    refine RP_ite (fun h2 => ?_) (fun h2 => ?_)
    · skip
      exact RP_w (u_kfl_rd_listedAction_36 v1 v2 (m.1 207) m) (fun z hz => (fr_s hz fr_0 rfl rfl))
    · skip
      refine RP_bnd (u_kf_tx_fail 4 (m.1 207) m) (fun y13 h3 => ?_)
      have h4 : fr kF_rd_listedAction kA_rd_listedAction m y13.2.2 := (fr_s h3 fr_0 rfl rfl)
      refine RP_ite (fun h5 => ?_) (fun h5 => ?_)
      · skip
        exact RP_w (u_kfl_rd_listedAction_36 v1 v2 (m.1 207) y13.2.2) (fun z hz => (fr_s hz h4 rfl rfl))
      · skip
        exact RP_some h4
  · skip
    exact RP_w (u_kfl_rd_listedAction_36 v1 v2 (m.1 207) m) (fun z hz => (fr_s hz fr_0 rfl rfl))
