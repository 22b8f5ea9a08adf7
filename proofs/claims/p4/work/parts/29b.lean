def kF_rd_writtenSlot : List Nat := [205, 206, 207, 208, 209, 210, 211, 212]
def kA_rd_writtenSlot : List Nat := []
theorem u_kfl_rd_writtenSlot_56 (m : mR) : RP (kfl_rd_writtenSlot_56 m) (fun z : Int × Int × mR => fr kF_rd_writtenSlot kA_rd_writtenSlot m z.2.2) := by
  unfold kfl_rd_writtenSlot_56
  refine RP_bnd (u_kf_fm_placeSlot m) (fun y1 h1 => ?_)
  have h2 : fr kF_rd_writtenSlot kA_rd_writtenSlot m y1.2.2 := (fr_s h1 fr_0 rfl rfl)
  refine RP_ite (fun h3 => ?_) (fun h3 => ?_)
  · skip
    exact RP_some h2
  · skip
    exact RP_some h2
theorem u_kfl_rd_writtenSlot_40 (m : mR) : RP (kfl_rd_writtenSlot_40 m) (fun z : Int × Int × mR => fr kF_rd_writtenSlot kA_rd_writtenSlot m z.2.2) := by
  unfold kfl_rd_writtenSlot_40
  refine RP_bnd (u_kf_tx_fail 6 (m.1 207) m) (fun y4 h1 => ?_)
  have h2 : fr kF_rd_writtenSlot kA_rd_writtenSlot m y4.2.2 := (fr_s h1 fr_0 rfl rfl)
  refine RP_ite (fun h3 => ?_) (fun h3 => ?_)
  · skip
    exact RP_w (u_kfl_rd_writtenSlot_56 y4.2.2) (fun z hz => (fr_s hz h2 rfl rfl))
  · skip
    exact RP_some h2
theorem u_kfl_rd_writtenSlot_20 (m : mR) : RP (kfl_rd_writtenSlot_20 m) (fun z : Int × Int × mR => fr kF_rd_writtenSlot kA_rd_writtenSlot m z.2.2) := by
  unfold kfl_rd_writtenSlot_20
  refine RP_bndT (fun y7 => ?_)
  refine RP_ite (fun h1 => ?_) (fun h1 => ?_)
  · skip
    exact RP_w (u_kfl_rd_writtenSlot_40 m) (fun z hz => (fr_s hz fr_0 rfl rfl))
  · skip
    refine RP_ite (fun h2 => ?_) (fun h2 => ?_)
    · skip
      exact RP_w (u_kfl_rd_writtenSlot_40 m) (fun z hz => (fr_s hz fr_0 rfl rfl))
    · skip
      exact RP_w (u_kfl_rd_writtenSlot_56 m) (fun z hz => (fr_s hz fr_0 rfl rfl))
theorem u_kf_rd_writtenSlot (m : mR) : RP (kf_rd_writtenSlot m) (fun z : Int × Int × mR => fr kF_rd_writtenSlot kA_rd_writtenSlot m z.2.2) := by
  unfold kf_rd_writtenSlot
  refine RP_ite (fun h1 => ?_) (fun h1 => ?_)
  · skip
    exact RP_w (u_kfl_rd_writtenSlot_20 m) (fun z hz => (fr_s hz fr_0 rfl rfl))
  · skip
    refine RP_bnd (u_kf_tx_refuse m) (fun y13 h2 => ?_)
    have h3 : fr kF_rd_writtenSlot kA_rd_writtenSlot m y13.2.2 := (fr_s h2 fr_0 rfl rfl)
    refine RP_ite (fun h4 => ?_) (fun h4 => ?_)
    · skip
      exact RP_w (u_kfl_rd_writtenSlot_20 y13.2.2) (fun z hz => (fr_s hz h3 rfl rfl))
    · skip
      exact RP_some h3
def kF_rd_arrayOf : List Nat := [205, 206, 207, 208, 209, 210, 211, 212]
def kA_rd_arrayOf : List Nat := [47]
theorem u_kf_rd_arrayOf (v1 : Int) (m : mR) : RP (kf_rd_arrayOf v1 m) (fun z : Int × Int × mR => fr kF_rd_arrayOf kA_rd_arrayOf m z.2.2) := by
  unfold kf_rd_arrayOf
  refine RP_bnd (u_kf_tx_known 303 m) (fun y1 h1 => ?_)
  have h2 : fr kF_rd_arrayOf kA_rd_arrayOf m y1.2.2 := (fr_s h1 fr_0 rfl rfl)
  refine RP_ite (fun h3 => ?_) (fun h3 => ?_)
  · skip
    refine RP_ite (fun h4 => ?_) (fun h4 => ?_)
    · skip
      exact RP_some (fr_m h2 rfl rfl)
    · skip
      refine RP_bndT (fun y5 => ?_)
      refine RP_ite (fun h5 => ?_) (fun h5 => ?_)
      · skip
        exact RP_some (fr_m h2 rfl rfl)
      · skip
        refine RP_bnd (u_kf_tx_fail 7 (m.1 207) (mO y1.2.2 [] [(47, upI (y1.2.2.2 47) v1 y1.2.1)])) (fun y9 h6 => ?_)
        have h7 : fr kF_rd_arrayOf kA_rd_arrayOf m y9.2.2 := (fr_s h6 (fr_m h2 rfl rfl) rfl rfl)
        refine RP_ite (fun h8 => ?_) (fun h8 => ?_)
        · skip
          exact RP_some h7
        · skip
          exact RP_some h7
  · skip
    exact RP_some h2
def kF_fm_add : List Nat := [213, 220, 229]
def kA_fm_add : List Nat := [18, 19, 20, 22, 23, 70]
theorem u_kfl_fm_add_105 (v6 : Int) (u1 : Int) (m : mR) : RP (kfl_fm_add_105 v6 u1 m) (fun z : Int × mR => fr kF_fm_add kA_fm_add m z.2) := by
  unfold kfl_fm_add_105
  exact RP_some (fr_m fr_0 rfl rfl)
theorem u_kf_fm_add (v1 : Int) (v2 : Int) (v3 : Int) (v4 : Int) (v5 : Int) (m : mR) : RP (kf_fm_add v1 v2 v3 v4 v5 m) (fun z : Int × mR => fr kF_fm_add kA_fm_add m z.2) := by
  unfold kf_fm_add
  refine RP_bndT (fun y1 => ?_)
  refine RP_ite (fun h1 => ?_) (fun h1 => ?_)
  · skip
    exact RP_w (u_kfl_fm_add_105 y1 0 (mO m [(220, cut (y1 + 1))] [(18, upI (m.2 18) y1 v1), (19, upI (m.2 19) y1 v2), (20, upI (m.2 20) y1 v3), (22, upI (m.2 22) y1 v4), (23, upI (m.2 23) y1 v5)])) (fun z hz => (fr_s hz (fr_m fr_0 rfl rfl) rfl rfl))
  · skip
    exact RP_w (u_kfl_fm_add_105 y1 1 (mO m [(220, cut (y1 + 1))] [(18, upI (m.2 18) y1 v1), (19, upI (m.2 19) y1 v2), (20, upI (m.2 20) y1 v3), (22, upI (m.2 22) y1 v4), (23, upI (m.2 23) y1 v5)])) (fun z hz => (fr_s hz (fr_m fr_0 rfl rfl) rfl rfl))
def kF_tx_within : List Nat := [205, 206, 207, 208, 209, 210, 211, 212]
def kA_tx_within : List Nat := []
theorem u_kfl_tx_within_43 (m : mR) : RP (kfl_tx_within_43 m) (fun z : Int × Int × mR => fr kF_tx_within kA_tx_within m z.2.2) := by
  unfold kfl_tx_within_43
  refine RP_bnd (u_kf_tx_advance m) (fun y1 h1 => ?_)
  have h2 : fr kF_tx_within kA_tx_within m y1.2.2 := (fr_s h1 fr_0 rfl rfl)
  refine RP_ite (fun h3 => ?_) (fun h3 => ?_)
  · skip
    exact RP_some h2
  · skip
    exact RP_some h2
theorem u_kfl_tx_within_34 (m : mR) : RP (kfl_tx_within_34 m) (fun z : Int × Int × mR => fr kF_tx_within kA_tx_within m z.2.2) := by
  unfold kfl_tx_within_34
  refine RP_bnd (u_kf_tx_fail 5 (m.1 207) m) (fun y4 h1 => ?_)
  have h2 : fr kF_tx_within kA_tx_within m y4.2.2 := (fr_s h1 fr_0 rfl rfl)
  refine RP_ite (fun h3 => ?_) (fun h3 => ?_)
  · skip
    exact RP_w (u_kfl_tx_within_43 y4.2.2) (fun z hz => (fr_s hz h2 rfl rfl))
  · skip
    exact RP_some h2
theorem u_kfl_tx_within_14 (v1 : Int) (v2 : Int) (m : mR) : RP (kfl_tx_within_14 v1 v2 m) (fun z : Int × Int × mR => fr kF_tx_within kA_tx_within m z.2.2) := by
  unfold kfl_tx_within_14
  refine RP_ite (fun h1 => ?_) (fun h1 => ?_)
  · skip
    exact RP_w (u_kfl_tx_within_34 m) (fun z hz => (fr_s hz fr_0 rfl rfl))
  · skip
    refine RP_ite (fun h2 => ?_) (fun h2 => ?_)
    · skip
      exact RP_w (u_kfl_tx_within_43 m) (fun z hz => (fr_s hz fr_0 rfl rfl))
    · skip
      exact RP_w (u_kfl_tx_within_34 m) (fun z hz => (fr_s hz fr_0 rfl rfl))
theorem u_kf_tx_within (v1 : Int) (v2 : Int) (m : mR) : RP (kf_tx_within v1 v2 m) (fun z : Int × Int × mR => fr kF_tx_within kA_tx_within m z.2.2) := by
  unfold kf_tx_within
  refine RP_ite (fun h1 => ?_) (fun h1 => ?_)
  · skip
    exact RP_w (u_kfl_tx_within_14 v1 v2 m) (fun z hz => (fr_s hz fr_0 rfl rfl))
  · skip
    refine RP_bnd (u_kf_tx_refuse m) (fun y10 h2 => ?_)
    have h3 : fr kF_tx_within kA_tx_within m y10.2.2 := (fr_s h2 fr_0 rfl rfl)
    refine RP_ite (fun h4 => ?_) (fun h4 => ?_)
    · skip
      exact RP_w (u_kfl_tx_within_14 v1 v2 y10.2.2) (fun z hz => (fr_s hz h3 rfl rfl))
    · skip
      exact RP_some h3
def kF_fm_suffixes : List Nat := [205, 206, 207, 208, 209, 210, 211, 212, 213, 220, 229]
def kA_fm_suffixes : List Nat := [18, 19, 20, 22, 23, 70]
theorem u_kfl_fm_suffixes_287 (v1 : Int) (m : mR) : RP (kfl_fm_suffixes_287 v1 m) (sel (fun z : (Int × mR) => fr kF_fm_suffixes kA_fm_suffixes m z.2) (sel (fun z : (mR) => fr kF_fm_suffixes kA_fm_suffixes m z) (fun z : Int × mR => fr kF_fm_suffixes kA_fm_suffixes m z.2))) := by
  unfold kfl_fm_suffixes_287
  exact RP_some fr_0
theorem u_kfl_fm_suffixes_239 (v1 : Int) (v2 : Int) (v5 : Int) (v7 : Int) (m : mR) : RP (kfl_fm_suffixes_239 v1 v2 v5 v7 m) (sel (fun z : (Int × mR) => fr kF_fm_suffixes kA_fm_suffixes m z.2) (sel (fun z : (mR) => fr kF_fm_suffixes kA_fm_suffixes m z) (fun z : Int × mR => fr kF_fm_suffixes kA_fm_suffixes m z.2))) := by
  unfold kfl_fm_suffixes_239
  refine RP_bnd (u_kf_tx_expect 93 m) (fun y2 h1 => ?_)
  have h2 : fr kF_fm_suffixes kA_fm_suffixes m y2.2.2 := (fr_s h1 fr_0 rfl rfl)
  refine RP_ite (fun h3 => ?_) (fun h3 => ?_)
  · skip
    refine RP_bnd (u_kf_fm_add 402 v2 (cut v7) (cut ((cut (cutl (v5 - v7))) + 1)) ((y2.2.2.2 23) v2) (mO y2.2.2 [(229, cut ((y2.2.2.1 229) - 1))] [])) (fun y5 h4 => ?_)
    have h5 : fr kF_fm_suffixes kA_fm_suffixes m y5.2 := (fr_s h4 (fr_m h2 rfl rfl) rfl rfl)
    exact RP_w (u_kfl_fm_suffixes_287 v1 y5.2) (sl_w (fun z hz => (fr_s hz h5 rfl rfl)) (sl_w (fun z hz => (fr_s hz h5 rfl rfl)) (fun z hz => (fr_s hz h5 rfl rfl))))
  · skip
    exact RP_some h2
theorem u_kfl_fm_suffixes_221 (v1 : Int) (v2 : Int) (v4 : Int) (v5 : Int) (v7 : Int) (u0 : Int) (m : mR) : RP (kfl_fm_suffixes_221 v1 v2 v4 v5 v7 u0 m) (sel (fun z : (Int × mR) => fr kF_fm_suffixes kA_fm_suffixes m z.2) (sel (fun z : (mR) => fr kF_fm_suffixes kA_fm_suffixes m z) (fun z : Int × mR => fr kF_fm_suffixes kA_fm_suffixes m z.2))) := by
  unfold kfl_fm_suffixes_221
  refine RP_ite (fun h1 => ?_) (fun h1 => ?_)
  · skip
    refine RP_bnd (u_kf_tx_fail 7 v4 m) (fun y9 h2 => ?_)
    have h3 : fr kF_fm_suffixes kA_fm_suffixes m y9.2.2 := (fr_s h2 fr_0 rfl rfl)
    refine RP_ite (fun h4 => ?_) (fun h4 => ?_)
    · skip
      exact RP_w (u_kfl_fm_suffixes_239 v1 v2 v5 v7 y9.2.2) (sl_w (fun z hz => (fr_s hz h3 rfl rfl)) (sl_w (fun z hz => (fr_s hz h3 rfl rfl)) (fun z hz => (fr_s hz h3 rfl rfl))))
    · skip
      exact RP_some h3
  · skip
    exact RP_w (u_kfl_fm_suffixes_239 v1 v2 v5 v7 m) (sl_w (fun z hz => (fr_s hz fr_0 rfl rfl)) (sl_w (fun z hz => (fr_s hz fr_0 rfl rfl)) (fun z hz => (fr_s hz fr_0 rfl rfl))))
theorem u_kfl_fm_suffixes_220 (v1 : Int) (v2 : Int) (v4 : Int) (v5 : Int) (v7 : Int) (m : mR) : RP (kfl_fm_suffixes_220 v1 v2 v4 v5 v7 m) (sel (fun z : (Int × mR) => fr kF_fm_suffixes kA_fm_suffixes m z.2) (sel (fun z : (mR) => fr kF_fm_suffixes kA_fm_suffixes m z) (fun z : Int × mR => fr kF_fm_suffixes kA_fm_suffixes m z.2))) := by
  unfold kfl_fm_suffixes_220
  exact RP_w (u_kfl_fm_suffixes_221 v1 v2 v4 v5 v7 0 m) (sl_w (fun z hz => (fr_s hz fr_0 rfl rfl)) (sl_w (fun z hz => (fr_s hz fr_0 rfl rfl)) (fun z hz => (fr_s hz fr_0 rfl rfl))))
theorem u_kfl_fm_suffixes_64 (v1 : Int) (v2 : Int) (u0 : Int) (m : mR) : RP (kfl_fm_suffixes_64 v1 v2 u0 m) (sel (fun z : (Int × mR) => fr kF_fm_suffixes kA_fm_suffixes m z.2) (sel (fun z : (mR) => fr kF_fm_suffixes kA_fm_suffixes m z) (fun z : Int × mR => fr kF_fm_suffixes kA_fm_suffixes m z.2))) := by
  unfold kfl_fm_suffixes_64
  refine RP_bnd (u_kf_tx_advance m) (fun y12 h1 => ?_)
  have h2 : fr kF_fm_suffixes kA_fm_suffixes m y12.2.2 := (fr_s h1 fr_0 rfl rfl)
  refine RP_ite (fun h3 => ?_) (fun h3 => ?_)
  · skip
    refine RP_ite (fun h4 => ?_) (fun h4 => ?_)
    · skip
      refine RP_bnd (u_kf_tx_expect 257 y12.2.2) (fun y16 h5 => ?_)
      have h6 : fr kF_fm_suffixes kA_fm_suffixes m y16.2.2 := (fr_s h5 h2 rfl rfl)
      refine RP_ite (fun h7 => ?_) (fun h7 => ?_)
      · skip
        refine RP_bnd (u_kf_tx_expect 58 y16.2.2) (fun y19 h8 => ?_)
        have h9 : fr kF_fm_suffixes kA_fm_suffixes m y19.2.2 := (fr_s h8 h6 rfl rfl)
        refine RP_ite (fun h10 => ?_) (fun h10 => ?_)
        · skip
          refine RP_bnd (u_kf_tx_expect 257 y19.2.2) (fun y22 h11 => ?_)
          have h12 : fr kF_fm_suffixes kA_fm_suffixes m y22.2.2 := (fr_s h11 h9 rfl rfl)
          refine RP_ite (fun h13 => ?_) (fun h13 => ?_)
          · skip
            refine RP_ite (fun h14 => ?_) (fun h14 => ?_)
            · skip
              exact RP_w (u_kfl_fm_suffixes_220 v1 v2 (y12.2.2.1 207) (y12.2.2.1 208) (y19.2.2.1 208) y22.2.2) (sl_w (fun z hz => (fr_s hz h12 rfl rfl)) (sl_w (fun z hz => (fr_s hz h12 rfl rfl)) (fun z hz => (fr_s hz h12 rfl rfl))))
            · skip
              refine RP_ite (fun h15 => ?_) (fun h15 => ?_)
              · skip
                exact RP_w (u_kfl_fm_suffixes_220 v1 v2 (y12.2.2.1 207) (y12.2.2.1 208) (y19.2.2.1 208) y22.2.2) (sl_w (fun z hz => (fr_s hz h12 rfl rfl)) (sl_w (fun z hz => (fr_s hz h12 rfl rfl)) (fun z hz => (fr_s hz h12 rfl rfl))))
              · skip
                refine RP_ite (fun h16 => ?_) (fun h16 => ?_)
                · skip
                  exact RP_w (u_kfl_fm_suffixes_220 v1 v2 (y12.2.2.1 207) (y12.2.2.1 208) (y19.2.2.1 208) y22.2.2) (sl_w (fun z hz => (fr_s hz h12 rfl rfl)) (sl_w (fun z hz => (fr_s hz h12 rfl rfl)) (fun z hz => (fr_s hz h12 rfl rfl))))
                · skip
                  refine RP_ite (fun h17 => ?_) (fun h17 => ?_)
                  · skip
                    exact RP_w (u_kfl_fm_suffixes_220 v1 v2 (y12.2.2.1 207) (y12.2.2.1 208) (y19.2.2.1 208) y22.2.2) (sl_w (fun z hz => (fr_s hz h12 rfl rfl)) (sl_w (fun z hz => (fr_s hz h12 rfl rfl)) (fun z hz => (fr_s hz h12 rfl rfl))))
                  · skip
                    exact RP_w (u_kfl_fm_suffixes_221 v1 v2 (y12.2.2.1 207) (y12.2.2.1 208) (y19.2.2.1 208) 1 y22.2.2) (sl_w (fun z hz => (fr_s hz h12 rfl rfl)) (sl_w (fun z hz => (fr_s hz h12 rfl rfl)) (fun z hz => (fr_s hz h12 rfl rfl))))
          · skip
            exact RP_some h12
        · skip
          exact RP_some h9
      · skip
        exact RP_some h6
    · skip
      refine RP_bnd (u_kf_tx_within 1 64 y12.2.2) (fun y29 h18 => ?_)
      have h19 : fr kF_fm_suffixes kA_fm_suffixes m y29.2.2 := (fr_s h18 h2 rfl rfl)
      refine RP_ite (fun h20 => ?_) (fun h20 => ?_)
      · skip
        refine RP_bnd (u_kf_fm_add 403 v2 0 y29.2.1 ((y29.2.2.2 23) v2) (mO y29.2.2 [(229, cut ((y29.2.2.1 229) - 1))] [])) (fun y32 h21 => ?_)
        have h22 : fr kF_fm_suffixes kA_fm_suffixes m y32.2 := (fr_s h21 (fr_m h19 rfl rfl) rfl rfl)
        exact RP_w (u_kfl_fm_suffixes_287 v1 y32.2) (sl_w (fun z hz => (fr_s hz h22 rfl rfl)) (sl_w (fun z hz => (fr_s hz h22 rfl rfl)) (fun z hz => (fr_s hz h22 rfl rfl))))
      · skip
        exact RP_some h19
  · skip
    exact RP_some h2
theorem u_kfl_fm_suffixes_34 (v1 : Int) (m : mR) : RP (kfl_fm_suffixes_34 v1 m) (sel (fun z : (Int × mR) => fr kF_fm_suffixes kA_fm_suffixes m z.2) (sel (fun z : (mR) => fr kF_fm_suffixes kA_fm_suffixes m z) (fun z : Int × mR => fr kF_fm_suffixes kA_fm_suffixes m z.2))) := by
  unfold kfl_fm_suffixes_34
  refine RP_ite (fun h1 => ?_) (fun h1 => ?_)
  · skip
    exact RP_w (u_kfl_fm_suffixes_64 v1 ((m.2 70) (cut ((m.1 229) - 1))) 1 m) (sl_w (fun z hz => (fr_s hz fr_0 rfl rfl)) (sl_w (fun z hz => (fr_s hz fr_0 rfl rfl)) (fun z hz => (fr_s hz fr_0 rfl rfl))))
  · skip
    exact RP_w (u_kfl_fm_suffixes_64 v1 ((m.2 70) (cut ((m.1 229) - 1))) 0 m) (sl_w (fun z hz => (fr_s hz fr_0 rfl rfl)) (sl_w (fun z hz => (fr_s hz fr_0 rfl rfl)) (fun z hz => (fr_s hz fr_0 rfl rfl))))
theorem u_kfb_fm_suffixes_2 (s : Int × mR) : RP (kfb_fm_suffixes_2 s) (sel (fun z : (Int × mR) => fr kF_fm_suffixes kA_fm_suffixes s.2 z.2) (sel (fun z : (mR) => fr kF_fm_suffixes kA_fm_suffixes s.2 z) (fun z : Int × mR => fr kF_fm_suffixes kA_fm_suffixes s.2 z.2))) := by
  unfold kfb_fm_suffixes_2
  refine RP_ite (fun h1 => ?_) (fun h1 => ?_)
  · skip
    exact RP_some fr_0
  · skip
    refine RP_ite (fun h2 => ?_) (fun h2 => ?_)
    · skip
      exact RP_w (u_kfl_fm_suffixes_34 s.1 s.2) (sl_w (fun z hz => (fr_s hz fr_0 rfl rfl)) (sl_w (fun z hz => (fr_s hz fr_0 rfl rfl)) (fun z hz => (fr_s hz fr_0 rfl rfl))))
    · skip
      refine RP_ite (fun h3 => ?_) (fun h3 => ?_)
      · skip
        exact RP_w (u_kfl_fm_suffixes_34 s.1 s.2) (sl_w (fun z hz => (fr_s hz fr_0 rfl rfl)) (sl_w (fun z hz => (fr_s hz fr_0 rfl rfl)) (fun z hz => (fr_s hz fr_0 rfl rfl))))
      · skip
        exact RP_some fr_0
theorem uw_kfb_fm_suffixes_2 (s : Int × mR) : RP (whl kfb_fm_suffixes_2 s) (sel (fun z : ((mR)) => fr kF_fm_suffixes kA_fm_suffixes s.2 z) (fun z : Int × mR => fr kF_fm_suffixes kA_fm_suffixes s.2 z.2)) := RP_whl (I := fun q : Int × mR => fr kF_fm_suffixes kA_fm_suffixes s.2 q.2) (fun q hq => RP_w (u_kfb_fm_suffixes_2 q) (sl_w (fun z hz => (fr_s hz hq rfl rfl)) (sl_w (fun z hz => (fr_s hz hq rfl rfl)) (fun z hz => (fr_s hz hq rfl rfl))))) fr_0
theorem u_kf_fm_suffixes (m : mR) : RP (kf_fm_suffixes m) (fun z : Int × Int × mR => fr kF_fm_suffixes kA_fm_suffixes m z.2.2) := by
  unfold kf_fm_suffixes
  refine RP_bnd (uw_kfb_fm_suffixes_2 (0, m)) (RP_sl (fun e40 h1 => ?_) (fun e43 h3 => ?_))
  · skip
    have h2 : fr kF_fm_suffixes kA_fm_suffixes m e40 := (fr_s h1 fr_0 rfl rfl)
    exact RP_some h2
  · skip
    have h4 : fr kF_fm_suffixes kA_fm_suffixes m e43.2 := (fr_s h3 fr_0 rfl rfl)
    exact RP_some h4
def kF_fm_closeBracket : List Nat := [205, 206, 207, 208, 209, 210, 211, 212, 228, 230]
def kA_fm_closeBracket : List Nat := [23]
theorem u_kfl_fm_closeBracket_19 (m : mR) : RP (kfl_fm_closeBracket_19 m) (fun z : Int × Int × mR => fr kF_fm_closeBracket kA_fm_closeBracket m z.2.2) := by
  unfold kfl_fm_closeBracket_19
  refine RP_bnd (u_kf_tx_advance (mO m [(228, cut ((m.1 228) - 1)), (230, cut ((m.1 230) - 1))] [(23, upI (m.2 23) ((m.2 70) (cut ((m.1 229) - 1))) ((m.2 69) (cut ((m.1 228) - 1))))])) (fun y1 h1 => ?_)
  have h2 : fr kF_fm_closeBracket kA_fm_closeBracket m y1.2.2 := (fr_s h1 (fr_m fr_0 rfl rfl) rfl rfl)
  refine RP_ite (fun h3 => ?_) (fun h3 => ?_)
  · skip
    exact RP_some h2
  · skip
    exact RP_some h2
theorem u_kf_fm_closeBracket (m : mR) : RP (kf_fm_closeBracket m) (fun z : Int × Int × mR => fr kF_fm_closeBracket kA_fm_closeBracket m z.2.2) := by
  unfold kf_fm_closeBracket
  refine RP_ite (fun h1 => ?_) (fun h1 => ?_)
  · skip
    exact RP_w (u_kfl_fm_closeBracket_19 m) (fun z hz => (fr_s hz fr_0 rfl rfl))
  · skip
    refine RP_bnd (u_kf_tx_refuse m) (fun y5 h2 => ?_)
    have h3 : fr kF_fm_closeBracket kA_fm_closeBracket m y5.2.2 := (fr_s h2 fr_0 rfl rfl)
    refine RP_ite (fun h4 => ?_) (fun h4 => ?_)
    · skip
      exact RP_w (u_kfl_fm_closeBracket_19 y5.2.2) (fun z hz => (fr_s hz h3 rfl rfl))
    · skip
      exact RP_some h3
def kF_nd_fits : List Nat := []
def kA_nd_fits : List Nat := [22]
theorem u_kfl_nd_fits_59 (u0 : Int) (m : mR) : RP (kfl_nd_fits_59 u0 m) (fun z : Int × mR => fr kF_nd_fits kA_nd_fits m z.2) := by
  unfold kfl_nd_fits_59
  exact RP_some fr_0
theorem u_kfl_nd_fits_54 (m : mR) : RP (kfl_nd_fits_54 m) (fun z : Int × mR => fr kF_nd_fits kA_nd_fits m z.2) := by
  unfold kfl_nd_fits_54
  exact RP_w (u_kfl_nd_fits_59 1 m) (fun z hz => (fr_s hz fr_0 rfl rfl))
theorem u_kfl_nd_fits_27 (u0 : Int) (m : mR) : RP (kfl_nd_fits_27 u0 m) (fun z : Int × mR => fr kF_nd_fits kA_nd_fits m z.2) := by
  unfold kfl_nd_fits_27
  exact RP_some fr_0
theorem u_kf_nd_fits (v1 : Int) (v2 : Int) (m : mR) : RP (kf_nd_fits v1 v2 m) (fun z : Int × mR => fr kF_nd_fits kA_nd_fits m z.2) := by
  unfold kf_nd_fits
  refine RP_ite (fun h1 => ?_) (fun h1 => ?_)
  · skip
    refine RP_ite (fun h2 => ?_) (fun h2 => ?_)
    · skip
      exact RP_w (u_kfl_nd_fits_54 (mO m [] [(22, upI (m.2 22) v1 v2)])) (fun z hz => (fr_s hz (fr_m fr_0 rfl rfl) rfl rfl))
    · skip
      refine RP_ite (fun h3 => ?_) (fun h3 => ?_)
      · skip
        exact RP_w (u_kfl_nd_fits_54 (mO m [] [(22, upI (m.2 22) v1 v2)])) (fun z hz => (fr_s hz (fr_m fr_0 rfl rfl) rfl rfl))
      · skip
        exact RP_w (u_kfl_nd_fits_59 0 (mO m [] [(22, upI (m.2 22) v1 v2)])) (fun z hz => (fr_s hz (fr_m fr_0 rfl rfl) rfl rfl))
  · skip
    refine RP_ite (fun h4 => ?_) (fun h4 => ?_)
    · skip
      exact RP_w (u_kfl_nd_fits_27 1 m) (fun z hz => (fr_s hz fr_0 rfl rfl))
    · skip
      exact RP_w (u_kfl_nd_fits_27 0 m) (fun z hz => (fr_s hz fr_0 rfl rfl))
def kF_fm_agree : List Nat := [211, 212]
def kA_fm_agree : List Nat := [22]
theorem u_kfl_fm_agree_91 (v4 : Int) (u0 : Int) (m : mR) : RP (kfl_fm_agree_91 v4 u0 m) (fun z : Int × Int × mR => fr kF_fm_agree kA_fm_agree m z.2.2) := by
  unfold kfl_fm_agree_91
  refine RP_bnd (u_kf_nd_fits v4 u0 m) (fun y1 h1 => ?_)
  have h2 : fr kF_fm_agree kA_fm_agree m y1.2 := (fr_s h1 fr_0 rfl rfl)
  refine RP_ite (fun h3 => ?_) (fun h3 => ?_)
  · skip
    refine RP_bnd (u_kf_tx_fail 7 ((y1.2.2 23) v4) y1.2) (fun y5 h4 => ?_)
    have h5 : fr kF_fm_agree kA_fm_agree m y5.2.2 := (fr_s h4 h2 rfl rfl)
    refine RP_ite (fun h6 => ?_) (fun h6 => ?_)
    · skip
      exact RP_some h5
    · skip
      exact RP_some h5
  · skip
    exact RP_some h2
theorem u_kfl_fm_agree_55 (v1 : Int) (v2 : Int) (v3 : Int) (u0 : Int) (m : mR) : RP (kfl_fm_agree_55 v1 v2 v3 u0 m) (fun z : Int × Int × mR => fr kF_fm_agree kA_fm_agree m z.2.2) := by
  unfold kfl_fm_agree_55
  refine RP_ite (fun h1 => ?_) (fun h1 => ?_)
  · skip
    exact RP_w (u_kfl_fm_agree_91 u0 1 m) (fun z hz => (fr_s hz fr_0 rfl rfl))
  · skip
    refine RP_ite (fun h2 => ?_) (fun h2 => ?_)
    · skip
      exact RP_w (u_kfl_fm_agree_91 u0 ((m.2 22) v1) m) (fun z hz => (fr_s hz fr_0 rfl rfl))
    · skip
      exact RP_w (u_kfl_fm_agree_91 u0 ((m.2 22) v2) m) (fun z hz => (fr_s hz fr_0 rfl rfl))
theorem u_kfl_fm_agree_50 (v1 : Int) (v2 : Int) (v3 : Int) (m : mR) : RP (kfl_fm_agree_50 v1 v2 v3 m) (fun z : Int × Int × mR => fr kF_fm_agree kA_fm_agree m z.2.2) := by
  unfold kfl_fm_agree_50
  exact RP_w (u_kfl_fm_agree_55 v1 v2 v3 v1 m) (fun z hz => (fr_s hz fr_0 rfl rfl))
theorem u_kfl_fm_agree_40 (v1 : Int) (v2 : Int) (u0 : Int) (m : mR) : RP (kfl_fm_agree_40 v1 v2 u0 m) (fun z : Int × Int × mR => fr kF_fm_agree kA_fm_agree m z.2.2) := by
  unfold kfl_fm_agree_40
  refine RP_ite (fun h1 => ?_) (fun h1 => ?_)
  · skip
    exact RP_w (u_kfl_fm_agree_50 v1 v2 u0 m) (fun z hz => (fr_s hz fr_0 rfl rfl))
  · skip
    refine RP_ite (fun h2 => ?_) (fun h2 => ?_)
    · skip
      exact RP_w (u_kfl_fm_agree_55 v1 v2 u0 v2 m) (fun z hz => (fr_s hz fr_0 rfl rfl))
    · skip
      exact RP_w (u_kfl_fm_agree_50 v1 v2 u0 m) (fun z hz => (fr_s hz fr_0 rfl rfl))
theorem u_kfl_fm_agree_39 (v1 : Int) (v2 : Int) (m : mR) : RP (kfl_fm_agree_39 v1 v2 m) (fun z : Int × Int × mR => fr kF_fm_agree kA_fm_agree m z.2.2) := by
  unfold kfl_fm_agree_39
  exact RP_w (u_kfl_fm_agree_40 v1 v2 0 m) (fun z hz => (fr_s hz fr_0 rfl rfl))
theorem u_kf_fm_agree (v1 : Int) (v2 : Int) (m : mR) : RP (kf_fm_agree v1 v2 m) (fun z : Int × Int × mR => fr kF_fm_agree kA_fm_agree m z.2.2) := by
  unfold kf_fm_agree
  refine RP_ite (fun h1 => ?_) (fun h1 => ?_)
  · skip
    exact RP_w (u_kfl_fm_agree_39 v1 v2 m) (fun z hz => (fr_s hz fr_0 rfl rfl))
  · skip
    refine RP_ite (fun h2 => ?_) (fun h2 => ?_)
    · skip
      refine RP_ite (fun h3 => ?_) (fun h3 => ?_)
      · skip
        exact RP_w (u_kfl_fm_agree_39 v1 v2 m) (fun z hz => (fr_s hz fr_0 rfl rfl))
      · skip
        exact RP_w (u_kfl_fm_agree_40 v1 v2 1 m) (fun z hz => (fr_s hz fr_0 rfl rfl))
    · skip
      exact RP_w (u_kfl_fm_agree_39 v1 v2 m) (fun z hz => (fr_s hz fr_0 rfl rfl))
def kF_fm_closeChoice : List Nat := [211, 212, 213, 220, 228, 229, 230]
def kA_fm_closeChoice : List Nat := [18, 19, 20, 21, 22, 23, 70]
theorem u_kf_fm_closeChoice (m : mR) : RP (kf_fm_closeChoice m) (fun z : Int × Int × mR => fr kF_fm_closeChoice kA_fm_closeChoice m z.2.2) := by
  unfold kf_fm_closeChoice
  refine RP_bnd (u_kf_fm_agree ((m.2 70) (cut ((m.1 229) - 3))) (-1) m) (fun y1 h1 => ?_)
  have h2 : fr kF_fm_closeChoice kA_fm_closeChoice m y1.2.2 := (fr_s h1 fr_0 rfl rfl)
  refine RP_ite (fun h3 => ?_) (fun h3 => ?_)
  · skip
    refine RP_bnd (u_kf_fm_agree ((m.2 70) (cut ((m.1 229) - 2))) ((m.2 70) (cut ((m.1 229) - 1))) y1.2.2) (fun y4 h4 => ?_)
    have h5 : fr kF_fm_closeChoice kA_fm_closeChoice m y4.2.2 := (fr_s h4 h2 rfl rfl)
    refine RP_ite (fun h6 => ?_) (fun h6 => ?_)
    · skip
      refine RP_bnd (u_kf_fm_add 404 ((m.2 70) (cut ((m.1 229) - 3))) ((m.2 70) (cut ((m.1 229) - 2))) ((y4.2.2.2 22) ((m.2 70) (cut ((m.1 229) - 2)))) ((y4.2.2.2 23) ((m.2 70) (cut ((m.1 229) - 3)))) (mO y4.2.2 [(228, cut ((y4.2.2.1 228) - 1)), (229, cut ((y4.2.2.1 229) - 3)), (230, cut ((y4.2.2.1 230) - 1))] [])) (fun y7 h7 => ?_)
      have h8 : fr kF_fm_closeChoice kA_fm_closeChoice m y7.2 := (fr_s h7 (fr_m h5 rfl rfl) rfl rfl)
      exact RP_some (fr_m h8 rfl rfl)
    · skip
      exact RP_some h5
  · skip
    exact RP_some h2
def kF_fm_deepen : List Nat := [211, 212, 230]
def kA_fm_deepen : List Nat := []
theorem u_kfl_fm_deepen_102 (u0 : Int) (m : mR) : RP (kfl_fm_deepen_102 u0 m) (fun z : Int × Int × mR => fr kF_fm_deepen kA_fm_deepen m z.2.2) := by
  unfold kfl_fm_deepen_102
  refine RP_ite (fun h1 => ?_) (fun h1 => ?_)
  · skip
    exact RP_some fr_0
  · skip
    refine RP_ite (fun h2 => ?_) (fun h2 => ?_)
    · skip
      exact RP_some fr_0
    · skip
      refine RP_bnd (u_kf_tx_fail 4 (m.1 207) m) (fun y3 h3 => ?_)
      have h4 : fr kF_fm_deepen kA_fm_deepen m y3.2.2 := (fr_s h3 fr_0 rfl rfl)
      refine RP_ite (fun h5 => ?_) (fun h5 => ?_)
      · skip
        exact RP_some h4
      · skip
        exact RP_some h4
theorem u_kfl_fm_deepen_97 (m : mR) : RP (kfl_fm_deepen_97 m) (fun z : Int × Int × mR => fr kF_fm_deepen kA_fm_deepen m z.2.2) := by
  unfold kfl_fm_deepen_97
  exact RP_w (u_kfl_fm_deepen_102 1 m) (fun z hz => (fr_s hz fr_0 rfl rfl))
theorem u_kf_fm_deepen (m : mR) : RP (kf_fm_deepen m) (fun z : Int × Int × mR => fr kF_fm_deepen kA_fm_deepen m z.2.2) := by
  unfold kf_fm_deepen
  refine RP_ite (fun h1 => ?_) (fun h1 => ?_)
  · skip
    exact RP_w (u_kfl_fm_deepen_97 (mO m [(230, cut ((m.1 230) + 1))] [])) (fun z hz => (fr_s hz (fr_m fr_0 rfl rfl) rfl rfl))
  · skip
    refine RP_ite (fun h2 => ?_) (fun h2 => ?_)
    · skip
      exact RP_w (u_kfl_fm_deepen_97 (mO m [(230, cut ((m.1 230) + 1))] [])) (fun z hz => (fr_s hz (fr_m fr_0 rfl rfl) rfl rfl))
    · skip
      refine RP_ite (fun h3 => ?_) (fun h3 => ?_)
      · skip
        exact RP_w (u_kfl_fm_deepen_97 (mO m [(230, cut ((m.1 230) + 1))] [])) (fun z hz => (fr_s hz (fr_m fr_0 rfl rfl) rfl rfl))
      · skip
        refine RP_ite (fun h4 => ?_) (fun h4 => ?_)
        · skip
          exact RP_w (u_kfl_fm_deepen_97 (mO m [(230, cut ((m.1 230) + 1))] [])) (fun z hz => (fr_s hz (fr_m fr_0 rfl rfl) rfl rfl))
        · skip
          refine RP_ite (fun h5 => ?_) (fun h5 => ?_)
          · skip
            exact RP_w (u_kfl_fm_deepen_97 (mO m [(230, cut ((m.1 230) + 1))] [])) (fun z hz => (fr_s hz (fr_m fr_0 rfl rfl) rfl rfl))
          · skip
            refine RP_ite (fun h6 => ?_) (fun h6 => ?_)
            · skip
              exact RP_w (u_kfl_fm_deepen_97 (mO m [(230, cut ((m.1 230) + 1))] [])) (fun z hz => (fr_s hz (fr_m fr_0 rfl rfl) rfl rfl))
            · skip
              refine RP_ite (fun h7 => ?_) (fun h7 => ?_)
              · skip
                exact RP_w (u_kfl_fm_deepen_97 (mO m [(230, cut ((m.1 230) + 1))] [])) (fun z hz => (fr_s hz (fr_m fr_0 rfl rfl) rfl rfl))
              · skip
                exact RP_w (u_kfl_fm_deepen_102 0 (mO m [(230, cut ((m.1 230) + 1))] [])) (fun z hz => (fr_s hz (fr_m fr_0 rfl rfl) rfl rfl))
def kF_fm_open : List Nat := [205, 206, 207, 208, 209, 210, 211, 212, 228]
def kA_fm_open : List Nat := [68, 69]
theorem u_kfl_fm_open_25 (v1 : Int) (m : mR) : RP (kfl_fm_open_25 v1 m) (fun z : Int × Int × mR => fr kF_fm_open kA_fm_open m z.2.2) := by
  unfold kfl_fm_open_25
  refine RP_bnd (u_kf_tx_advance (mO m [(228, cut ((m.1 228) + 1))] [(68, upI (m.2 68) (m.1 228) v1), (69, upI (m.2 69) (m.1 228) (m.1 207))])) (fun y1 h1 => ?_)
  have h2 : fr kF_fm_open kA_fm_open m y1.2.2 := (fr_s h1 (fr_m fr_0 rfl rfl) rfl rfl)
  refine RP_ite (fun h3 => ?_) (fun h3 => ?_)
  · skip
    exact RP_some h2
  · skip
    exact RP_some h2
theorem u_kf_fm_open (v1 : Int) (m : mR) : RP (kf_fm_open v1 m) (fun z : Int × Int × mR => fr kF_fm_open kA_fm_open m z.2.2) := by
  unfold kf_fm_open
  refine RP_ite (fun h1 => ?_) (fun h1 => ?_)
  · skip
    exact RP_w (u_kfl_fm_open_25 v1 m) (fun z hz => (fr_s hz fr_0 rfl rfl))
  · skip
    refine RP_bnd (u_kf_tx_fail 4 (m.1 207) m) (fun y5 h2 => ?_)
    have h3 : fr kF_fm_open kA_fm_open m y5.2.2 := (fr_s h2 fr_0 rfl rfl)
    refine RP_ite (fun h4 => ?_) (fun h4 => ?_)
    · skip
      exact RP_w (u_kfl_fm_open_25 v1 y5.2.2) (fun z hz => (fr_s hz h3 rfl rfl))
    · skip
      exact RP_some h3
def kF_fm_joined : List Nat := [211, 212]
def kA_fm_joined : List Nat := []
theorem u_kfl_fm_joined_91 (v3 : Int) (u1 : Int) (u3 : Int) (m : mR) : RP (kfl_fm_joined_91 v3 u1 u3 m) (fun z : Int × Int × mR => fr kF_fm_joined kA_fm_joined m z.2.2) := by
  unfold kfl_fm_joined_91
  refine RP_bnd (u_kf_tx_fail u1 ((m.2 23) u3) m) (fun y1 h1 => ?_)
  have h2 : fr kF_fm_joined kA_fm_joined m y1.2.2 := (fr_s h1 fr_0 rfl rfl)
  refine RP_ite (fun h3 => ?_) (fun h3 => ?_)
  · skip
    exact RP_some h2
  · skip
    exact RP_some h2
theorem u_kfl_fm_joined_68 (v1 : Int) (v2 : Int) (v3 : Int) (v4 : Int) (m : mR) : RP (kfl_fm_joined_68 v1 v2 v3 v4 m) (fun z : Int × Int × mR => fr kF_fm_joined kA_fm_joined m z.2.2) := by
  unfold kfl_fm_joined_68
  refine RP_ite (fun h1 => ?_) (fun h1 => ?_)
  · skip
    exact RP_w (u_kfl_fm_joined_91 v3 7 v2 m) (fun z hz => (fr_s hz fr_0 rfl rfl))
  · skip
    exact RP_w (u_kfl_fm_joined_91 v3 7 v1 m) (fun z hz => (fr_s hz fr_0 rfl rfl))
theorem u_kfl_fm_joined_40 (v1 : Int) (v2 : Int) (v3 : Int) (u0 : Int) (m : mR) : RP (kfl_fm_joined_40 v1 v2 v3 u0 m) (fun z : Int × Int × mR => fr kF_fm_joined kA_fm_joined m z.2.2) := by
  unfold kfl_fm_joined_40
  refine RP_ite (fun h1 => ?_) (fun h1 => ?_)
  · skip
    refine RP_ite (fun h2 => ?_) (fun h2 => ?_)
    · skip
      exact RP_w (u_kfl_fm_joined_68 v1 v2 v3 u0 m) (fun z hz => (fr_s hz fr_0 rfl rfl))
    · skip
      refine RP_ite (fun h3 => ?_) (fun h3 => ?_)
      · skip
        exact RP_some fr_0
      · skip
        exact RP_w (u_kfl_fm_joined_68 v1 v2 v3 u0 m) (fun z hz => (fr_s hz fr_0 rfl rfl))
  · skip
    exact RP_w (u_kfl_fm_joined_68 v1 v2 v3 u0 m) (fun z hz => (fr_s hz fr_0 rfl rfl))
theorem u_kf_fm_joined (v1 : Int) (v2 : Int) (m : mR) : RP (kf_fm_joined v1 v2 m) (fun z : Int × Int × mR => fr kF_fm_joined kA_fm_joined m z.2.2) := by
  unfold kf_fm_joined
  refine RP_ite (fun h1 => ?_) (fun h1 => ?_)
  · skip
    exact RP_w (u_kfl_fm_joined_40 v1 v2 (cut (((m.2 22) v1) + ((m.2 22) v2))) 1 m) (fun z hz => (fr_s hz fr_0 rfl rfl))
  · skip
    exact RP_w (u_kfl_fm_joined_40 v1 v2 (cut (((m.2 22) v1) + ((m.2 22) v2))) 0 m) (fun z hz => (fr_s hz fr_0 rfl rfl))
def kF_fm_closePair : List Nat := [211, 212, 213, 220, 228, 229]
def kA_fm_closePair : List Nat := [18, 19, 20, 22, 23, 70]
theorem u_kfl_fm_closePair_144 (v1 : Int) (v2 : Int) (v3 : Int) (v5 : Int) (m : mR) : RP (kfl_fm_closePair_144 v1 v2 v3 v5 m) (fun z : Int × Int × mR => fr kF_fm_closePair kA_fm_closePair m z.2.2) := by
  unfold kfl_fm_closePair_144
  refine RP_bnd (u_kf_fm_add v1 v2 v3 v5 ((m.2 23) v2) (mO m [(228, cut ((m.1 228) - 1)), (229, cut ((m.1 229) - 2))] [])) (fun y1 h1 => ?_)
  have h2 : fr kF_fm_closePair kA_fm_closePair m y1.2 := (fr_s h1 (fr_m fr_0 rfl rfl) rfl rfl)
  exact RP_some h2
theorem u_kfl_fm_closePair_142 (v1 : Int) (v2 : Int) (v3 : Int) (u0 : Int) (m : mR) : RP (kfl_fm_closePair_142 v1 v2 v3 u0 m) (fun z : Int × Int × mR => fr kF_fm_closePair kA_fm_closePair m z.2.2) := by
  unfold kfl_fm_closePair_142
  exact RP_w (u_kfl_fm_closePair_144 v1 v2 v3 u0 m) (fun z hz => (fr_s hz fr_0 rfl rfl))
theorem u_kfl_fm_closePair_67 (v1 : Int) (v2 : Int) (v3 : Int) (m : mR) : RP (kfl_fm_closePair_67 v1 v2 v3 m) (fun z : Int × Int × mR => fr kF_fm_closePair kA_fm_closePair m z.2.2) := by
  unfold kfl_fm_closePair_67
  refine RP_bnd (u_kf_fm_agree v2 (-1) m) (fun y4 h1 => ?_)
  have h2 : fr kF_fm_closePair kA_fm_closePair m y4.2.2 := (fr_s h1 fr_0 rfl rfl)
  refine RP_ite (fun h3 => ?_) (fun h3 => ?_)
  · skip
    refine RP_bnd (u_kf_fm_agree v3 (-1) y4.2.2) (fun y7 h4 => ?_)
    have h5 : fr kF_fm_closePair kA_fm_closePair m y7.2.2 := (fr_s h4 h2 rfl rfl)
    refine RP_ite (fun h6 => ?_) (fun h6 => ?_)
    · skip
      exact RP_w (u_kfl_fm_closePair_144 v1 v2 v3 1 y7.2.2) (fun z hz => (fr_s hz h5 rfl rfl))
    · skip
      exact RP_some h5
  · skip
    exact RP_some h2
theorem u_kf_fm_closePair (m : mR) : RP (kf_fm_closePair m) (fun z : Int × Int × mR => fr kF_fm_closePair kA_fm_closePair m z.2.2) := by
  unfold kf_fm_closePair
  refine RP_bndT (fun y10 => ?_)
  refine RP_ite (fun h1 => ?_) (fun h1 => ?_)
  · skip
    exact RP_w (u_kfl_fm_closePair_67 ((m.2 68) (cut ((m.1 228) - 1))) ((m.2 70) (cut ((m.1 229) - 2))) ((m.2 70) (cut ((m.1 229) - 1))) m) (fun z hz => (fr_s hz fr_0 rfl rfl))
  · skip
    refine RP_ite (fun h2 => ?_) (fun h2 => ?_)
    · skip
      exact RP_w (u_kfl_fm_closePair_67 ((m.2 68) (cut ((m.1 228) - 1))) ((m.2 70) (cut ((m.1 229) - 2))) ((m.2 70) (cut ((m.1 229) - 1))) m) (fun z hz => (fr_s hz fr_0 rfl rfl))
    · skip
      refine RP_ite (fun h3 => ?_) (fun h3 => ?_)
      · skip
        refine RP_bnd (u_kf_fm_joined ((m.2 70) (cut ((m.1 229) - 2))) ((m.2 70) (cut ((m.1 229) - 1))) m) (fun y22 h4 => ?_)
        have h5 : fr kF_fm_closePair kA_fm_closePair m y22.2.2 := (fr_s h4 fr_0 rfl rfl)
        refine RP_ite (fun h6 => ?_) (fun h6 => ?_)
        · skip
          exact RP_w (u_kfl_fm_closePair_144 ((m.2 68) (cut ((m.1 228) - 1))) ((m.2 70) (cut ((m.1 229) - 2))) ((m.2 70) (cut ((m.1 229) - 1))) y22.2.1 y22.2.2) (fun z hz => (fr_s hz h5 rfl rfl))
        · skip
          exact RP_some h5
      · skip
        refine RP_ite (fun h7 => ?_) (fun h7 => ?_)
        · skip
          exact RP_w (u_kfl_fm_closePair_144 ((m.2 68) (cut ((m.1 228) - 1))) ((m.2 70) (cut ((m.1 229) - 2))) ((m.2 70) (cut ((m.1 229) - 1))) ((m.2 22) ((m.2 70) (cut ((m.1 229) - 2)))) m) (fun z hz => (fr_s hz fr_0 rfl rfl))
        · skip
          refine RP_ite (fun h8 => ?_) (fun h8 => ?_)
          · skip
            exact RP_w (u_kfl_fm_closePair_144 ((m.2 68) (cut ((m.1 228) - 1))) ((m.2 70) (cut ((m.1 229) - 2))) ((m.2 70) (cut ((m.1 229) - 1))) ((m.2 22) ((m.2 70) (cut ((m.1 229) - 2)))) m) (fun z hz => (fr_s hz fr_0 rfl rfl))
          · skip
            refine RP_bnd (u_kf_fm_agree ((m.2 70) (cut ((m.1 229) - 2))) ((m.2 70) (cut ((m.1 229) - 1))) m) (fun y18 h9 => ?_)
            have h10 : fr kF_fm_closePair kA_fm_closePair m y18.2.2 := (fr_s h9 fr_0 rfl rfl)
            refine RP_ite (fun h11 => ?_) (fun h11 => ?_)
            · skip
              refine RP_ite (fun h12 => ?_) (fun h12 => ?_)
              · skip
                exact RP_w (u_kfl_fm_closePair_142 ((m.2 68) (cut ((m.1 228) - 1))) ((m.2 70) (cut ((m.1 229) - 2))) ((m.2 70) (cut ((m.1 229) - 1))) 1 y18.2.2) (fun z hz => (fr_s hz h10 rfl rfl))
              · skip
                exact RP_w (u_kfl_fm_closePair_142 ((m.2 68) (cut ((m.1 228) - 1))) ((m.2 70) (cut ((m.1 229) - 2))) ((m.2 70) (cut ((m.1 229) - 1))) ((y18.2.2.2 22) ((m.2 70) (cut ((m.1 229) - 2)))) y18.2.2) (fun z hz => (fr_s hz h10 rfl rfl))
            · skip
              exact RP_some h10
def kF_fm_closeSingle : List Nat := [211, 212, 213, 220, 228, 229, 230]
def kA_fm_closeSingle : List Nat := [18, 19, 20, 22, 23, 70]
theorem u_kfl_fm_closeSingle_74 (v1 : Int) (v2 : Int) (v3 : Int) (m : mR) : RP (kfl_fm_closeSingle_74 v1 v2 v3 m) (fun z : Int × Int × mR => fr kF_fm_closeSingle kA_fm_closeSingle m z.2.2) := by
  unfold kfl_fm_closeSingle_74
  refine RP_bnd (u_kf_fm_add v1 v2 0 v3 ((m.2 69) (cut ((m.1 228) - 1))) (mO m [(228, cut ((m.1 228) - 1)), (229, cut ((m.1 229) - 1)), (230, cut ((m.1 230) - 1))] [])) (fun y1 h1 => ?_)
  have h2 : fr kF_fm_closeSingle kA_fm_closeSingle m y1.2 := (fr_s h1 (fr_m fr_0 rfl rfl) rfl rfl)
  exact RP_some h2
theorem u_kfl_fm_closeSingle_43 (v1 : Int) (v2 : Int) (u0 : Int) (m : mR) : RP (kfl_fm_closeSingle_43 v1 v2 u0 m) (fun z : Int × Int × mR => fr kF_fm_closeSingle kA_fm_closeSingle m z.2.2) := by
  unfold kfl_fm_closeSingle_43
  refine RP_bnd (u_kf_nd_fits v2 u0 m) (fun y4 h1 => ?_)
  have h2 : fr kF_fm_closeSingle kA_fm_closeSingle m y4.2 := (fr_s h1 fr_0 rfl rfl)
  refine RP_ite (fun h3 => ?_) (fun h3 => ?_)
  · skip
    refine RP_bnd (u_kf_tx_fail 7 ((y4.2.2 23) v2) y4.2) (fun y8 h4 => ?_)
    have h5 : fr kF_fm_closeSingle kA_fm_closeSingle m y8.2.2 := (fr_s h4 h2 rfl rfl)
    refine RP_ite (fun h6 => ?_) (fun h6 => ?_)
    · skip
      exact RP_w (u_kfl_fm_closeSingle_74 v1 v2 u0 y8.2.2) (fun z hz => (fr_s hz h5 rfl rfl))
    · skip
      exact RP_some h5
  · skip
    exact RP_w (u_kfl_fm_closeSingle_74 v1 v2 u0 y4.2) (fun z hz => (fr_s hz h2 rfl rfl))
theorem u_kf_fm_closeSingle (m : mR) : RP (kf_fm_closeSingle m) (fun z : Int × Int × mR => fr kF_fm_closeSingle kA_fm_closeSingle m z.2.2) := by
  unfold kf_fm_closeSingle
  refine RP_ite (fun h1 => ?_) (fun h1 => ?_)
  · skip
    exact RP_w (u_kfl_fm_closeSingle_43 ((m.2 68) (cut ((m.1 228) - 1))) ((m.2 70) (cut ((m.1 229) - 1))) 1 m) (fun z hz => (fr_s hz fr_0 rfl rfl))
  · skip
    exact RP_w (u_kfl_fm_closeSingle_43 ((m.2 68) (cut ((m.1 228) - 1))) ((m.2 70) (cut ((m.1 229) - 1))) ((m.2 22) ((m.2 70) (cut ((m.1 229) - 1)))) m) (fun z hz => (fr_s hz fr_0 rfl rfl))
def kF_fm_goesOn : List Nat := [205, 206, 207, 208, 209, 210, 211, 212, 213, 220, 228, 229, 230]
def kA_fm_goesOn : List Nat := [18, 19, 20, 21, 22, 23, 68, 69, 70]
theorem u_kfl_fm_goesOn_262 (u0 : Int) (m : mR) : RP (kfl_fm_goesOn_262 u0 m) (fun z : Int × Int × mR => fr kF_fm_goesOn kA_fm_goesOn m z.2.2) := by
  unfold kfl_fm_goesOn_262
  exact RP_some fr_0
theorem u_kfl_fm_goesOn_247 (m : mR) : RP (kfl_fm_goesOn_247 m) (fun z : Int × Int × mR => fr kF_fm_goesOn kA_fm_goesOn m z.2.2) := by
  unfold kfl_fm_goesOn_247
  refine RP_ite (fun h1 => ?_) (fun h1 => ?_)
  · skip
    exact RP_w (u_kfl_fm_goesOn_262 0 m) (fun z hz => (fr_s hz fr_0 rfl rfl))
  · skip
    refine RP_bnd (u_kf_fm_closeBracket m) (fun y6 h2 => ?_)
    have h3 : fr kF_fm_goesOn kA_fm_goesOn m y6.2.2 := (fr_s h2 fr_0 rfl rfl)
    refine RP_ite (fun h4 => ?_) (fun h4 => ?_)
    · skip
      exact RP_w (u_kfl_fm_goesOn_262 y6.2.1 y6.2.2) (fun z hz => (fr_s hz h3 rfl rfl))
    · skip
      exact RP_some h3
theorem u_kfb_fm_goesOn_221 (s : Int × mR) : RP (kfb_fm_goesOn_221 s) (sel (fun z : (Int × mR) => fr kF_fm_goesOn kA_fm_goesOn s.2 z.2) (sel (fun z : (mR) => fr kF_fm_goesOn kA_fm_goesOn s.2 z) (fun z : Int × mR => fr kF_fm_goesOn kA_fm_goesOn s.2 z.2))) := by
  unfold kfb_fm_goesOn_221
  refine RP_ite (fun h1 => ?_) (fun h1 => ?_)
  · skip
    exact RP_some fr_0
  · skip
    refine RP_bndT (fun y11 => ?_)
    refine RP_ite (fun h2 => ?_) (fun h2 => ?_)
    · skip
      refine RP_bnd (u_kf_fm_closeChoice s.2) (fun y15 h3 => ?_)
      have h4 : fr kF_fm_goesOn kA_fm_goesOn s.2 y15.2.2 := (fr_s h3 fr_0 rfl rfl)
      refine RP_ite (fun h5 => ?_) (fun h5 => ?_)
      · skip
        exact RP_some h4
      · skip
        exact RP_some h4
    · skip
      exact RP_some fr_0
theorem uw_kfb_fm_goesOn_221 (s : Int × mR) : RP (whl kfb_fm_goesOn_221 s) (sel (fun z : ((mR)) => fr kF_fm_goesOn kA_fm_goesOn s.2 z) (fun z : Int × mR => fr kF_fm_goesOn kA_fm_goesOn s.2 z.2)) := RP_whl (I := fun q : Int × mR => fr kF_fm_goesOn kA_fm_goesOn s.2 q.2) (fun q hq => RP_w (u_kfb_fm_goesOn_221 q) (sl_w (fun z hz => (fr_s hz hq rfl rfl)) (sl_w (fun z hz => (fr_s hz hq rfl rfl)) (fun z hz => (fr_s hz hq rfl rfl))))) fr_0
theorem u_kfl_fm_goesOn_182 (m : mR) : RP (kfl_fm_goesOn_182 m) (fun z : Int × Int × mR => fr kF_fm_goesOn kA_fm_goesOn m z.2.2) := by
  unfold kfl_fm_goesOn_182
  refine RP_bndT (fun y18 => ?_)
  refine RP_ite (fun h1 => ?_) (fun h1 => ?_)
  · skip
    refine RP_bnd (u_kf_tx_expect 58 m) (fun y27 h2 => ?_)
    have h3 : fr kF_fm_goesOn kA_fm_goesOn m y27.2.2 := (fr_s h2 fr_0 rfl rfl)
    refine RP_ite (fun h4 => ?_) (fun h4 => ?_)
    · skip
      refine RP_bnd (u_kf_fm_deepen (mO y27.2.2 [] [(68, upI (y27.2.2.2 68) (cut ((y27.2.2.1 228) - 1)) 58)])) (fun y30 h5 => ?_)
      have h6 : fr kF_fm_goesOn kA_fm_goesOn m y30.2.2 := (fr_s h5 (fr_m h3 rfl rfl) rfl rfl)
      refine RP_ite (fun h7 => ?_) (fun h7 => ?_)
      · skip
        exact RP_some h6
      · skip
        exact RP_some h6
    · skip
      exact RP_some h3
  · skip
    refine RP_bnd (uw_kfb_fm_goesOn_221 (0, m)) (RP_sl (fun e22 h8 => ?_) (fun e25 h10 => ?_))
    · skip
      have h9 : fr kF_fm_goesOn kA_fm_goesOn m e22 := (fr_s h8 fr_0 rfl rfl)
      exact RP_w (u_kfl_fm_goesOn_247 e22) (fun z hz => (fr_s hz h9 rfl rfl))
    · skip
      have h11 : fr kF_fm_goesOn kA_fm_goesOn m e25.2 := (fr_s h10 fr_0 rfl rfl)
      exact RP_some h11
theorem u_kfl_fm_goesOn_153 (m : mR) : RP (kfl_fm_goesOn_153 m) (fun z : Int × Int × mR => fr kF_fm_goesOn kA_fm_goesOn m z.2.2) := by
  unfold kfl_fm_goesOn_153
  refine RP_ite (fun h1 => ?_) (fun h1 => ?_)
  · skip
    refine RP_bndT (fun y34 => ?_)
    refine RP_ite (fun h2 => ?_) (fun h2 => ?_)
    · skip
      exact RP_w (u_kfl_fm_goesOn_182 m) (fun z hz => (fr_s hz fr_0 rfl rfl))
    · skip
      refine RP_bnd (u_kf_fm_open 63 m) (fun y38 h3 => ?_)
      have h4 : fr kF_fm_goesOn kA_fm_goesOn m y38.2.2 := (fr_s h3 fr_0 rfl rfl)
      refine RP_ite (fun h5 => ?_) (fun h5 => ?_)
      · skip
        exact RP_some h4
      · skip
        exact RP_some h4
  · skip
    exact RP_w (u_kfl_fm_goesOn_182 m) (fun z hz => (fr_s hz fr_0 rfl rfl))
theorem u_kfb_fm_goesOn_126 (s : Int × mR) : RP (kfb_fm_goesOn_126 s) (sel (fun z : (Int × mR) => fr kF_fm_goesOn kA_fm_goesOn s.2 z.2) (sel (fun z : (mR) => fr kF_fm_goesOn kA_fm_goesOn s.2 z) (fun z : Int × mR => fr kF_fm_goesOn kA_fm_goesOn s.2 z.2))) := by
  unfold kfb_fm_goesOn_126
  refine RP_ite (fun h1 => ?_) (fun h1 => ?_)
  · skip
    exact RP_some fr_0
  · skip
    refine RP_bndT (fun y43 => ?_)
    refine RP_bndT (fun y46 => ?_)
    refine RP_ite (fun h2 => ?_) (fun h2 => ?_)
    · skip
      exact RP_some fr_0
    · skip
      refine RP_bnd (u_kf_fm_closePair s.2) (fun y50 h3 => ?_)
      have h4 : fr kF_fm_goesOn kA_fm_goesOn s.2 y50.2.2 := (fr_s h3 fr_0 rfl rfl)
      refine RP_ite (fun h5 => ?_) (fun h5 => ?_)
      · skip
        exact RP_some h4
      · skip
        exact RP_some h4
theorem uw_kfb_fm_goesOn_126 (s : Int × mR) : RP (whl kfb_fm_goesOn_126 s) (sel (fun z : ((mR)) => fr kF_fm_goesOn kA_fm_goesOn s.2 z) (fun z : Int × mR => fr kF_fm_goesOn kA_fm_goesOn s.2 z.2)) := RP_whl (I := fun q : Int × mR => fr kF_fm_goesOn kA_fm_goesOn s.2 q.2) (fun q hq => RP_w (u_kfb_fm_goesOn_126 q) (sl_w (fun z hz => (fr_s hz hq rfl rfl)) (sl_w (fun z hz => (fr_s hz hq rfl rfl)) (fun z hz => (fr_s hz hq rfl rfl))))) fr_0
theorem u_kfl_fm_goesOn_124 (m : mR) : RP (kfl_fm_goesOn_124 m) (fun z : Int × Int × mR => fr kF_fm_goesOn kA_fm_goesOn m z.2.2) := by
  unfold kfl_fm_goesOn_124
  refine RP_bnd (uw_kfb_fm_goesOn_126 (0, m)) (RP_sl (fun e53 h1 => ?_) (fun e56 h3 => ?_))
  · skip
    have h2 : fr kF_fm_goesOn kA_fm_goesOn m e53 := (fr_s h1 fr_0 rfl rfl)
    exact RP_w (u_kfl_fm_goesOn_153 e53) (fun z hz => (fr_s hz h2 rfl rfl))
  · skip
    have h4 : fr kF_fm_goesOn kA_fm_goesOn m e56.2 := (fr_s h3 fr_0 rfl rfl)
    exact RP_some h4
theorem u_kfl_fm_goesOn_111 (m : mR) : RP (kfl_fm_goesOn_111 m) (fun z : Int × Int × mR => fr kF_fm_goesOn kA_fm_goesOn m z.2.2) := by
  unfold kfl_fm_goesOn_111
  refine RP_bnd (u_kf_fm_open (m.1 206) m) (fun y58 h1 => ?_)
  have h2 : fr kF_fm_goesOn kA_fm_goesOn m y58.2.2 := (fr_s h1 fr_0 rfl rfl)
  refine RP_ite (fun h3 => ?_) (fun h3 => ?_)
  · skip
    exact RP_some h2
  · skip
    exact RP_some h2
theorem u_kfl_fm_goesOn_91 (v1 : Int) (m : mR) : RP (kfl_fm_goesOn_91 v1 m) (fun z : Int × Int × mR => fr kF_fm_goesOn kA_fm_goesOn m z.2.2) := by
  unfold kfl_fm_goesOn_91
  refine RP_ite (fun h1 => ?_) (fun h1 => ?_)
  · skip
    exact RP_w (u_kfl_fm_goesOn_124 m) (fun z hz => (fr_s hz fr_0 rfl rfl))
  · skip
    refine RP_ite (fun h2 => ?_) (fun h2 => ?_)
    · skip
      refine RP_bndT (fun y63 => ?_)
      refine RP_bndT (fun y66 => ?_)
      refine RP_ite (fun h3 => ?_) (fun h3 => ?_)
      · skip
        exact RP_w (u_kfl_fm_goesOn_124 m) (fun z hz => (fr_s hz fr_0 rfl rfl))
      · skip
        exact RP_w (u_kfl_fm_goesOn_111 m) (fun z hz => (fr_s hz fr_0 rfl rfl))
    · skip
      exact RP_w (u_kfl_fm_goesOn_111 m) (fun z hz => (fr_s hz fr_0 rfl rfl))
theorem u_kfb_fm_goesOn_63 (v1 : Int) (v2 : Int) (s : Int × mR) : RP (kfb_fm_goesOn_63 v1 v2 s) (sel (fun z : (Int × mR) => fr kF_fm_goesOn kA_fm_goesOn s.2 z.2) (sel (fun z : (mR) => fr kF_fm_goesOn kA_fm_goesOn s.2 z) (fun z : Int × mR => fr kF_fm_goesOn kA_fm_goesOn s.2 z.2))) := by
  unfold kfb_fm_goesOn_63
  refine RP_ite (fun h1 => ?_) (fun h1 => ?_)
  · skip
    exact RP_some fr_0
  · skip
    refine RP_bndT (fun y72 => ?_)
    refine RP_bndT (fun y75 => ?_)
    refine RP_ite (fun h2 => ?_) (fun h2 => ?_)
    · skip
      exact RP_some fr_0
    · skip
      refine RP_bnd (u_kf_fm_closePair s.2) (fun y79 h3 => ?_)
      have h4 : fr kF_fm_goesOn kA_fm_goesOn s.2 y79.2.2 := (fr_s h3 fr_0 rfl rfl)
      refine RP_ite (fun h5 => ?_) (fun h5 => ?_)
      · skip
        exact RP_some h4
      · skip
        exact RP_some h4
theorem uw_kfb_fm_goesOn_63 (v1 : Int) (v2 : Int) (s : Int × mR) : RP (whl (kfb_fm_goesOn_63 v1 v2) s) (sel (fun z : ((mR)) => fr kF_fm_goesOn kA_fm_goesOn s.2 z) (fun z : Int × mR => fr kF_fm_goesOn kA_fm_goesOn s.2 z.2)) := RP_whl (I := fun q : Int × mR => fr kF_fm_goesOn kA_fm_goesOn s.2 q.2) (fun q hq => RP_w (u_kfb_fm_goesOn_63 v1 v2 q) (sl_w (fun z hz => (fr_s hz hq rfl rfl)) (sl_w (fun z hz => (fr_s hz hq rfl rfl)) (fun z hz => (fr_s hz hq rfl rfl))))) fr_0
theorem u_kfl_fm_goesOn_60 (v1 : Int) (u0 : Int) (m : mR) : RP (kfl_fm_goesOn_60 v1 u0 m) (fun z : Int × Int × mR => fr kF_fm_goesOn kA_fm_goesOn m z.2.2) := by
  unfold kfl_fm_goesOn_60
  refine RP_bnd (uw_kfb_fm_goesOn_63 v1 u0 (0, m)) (RP_sl (fun e82 h1 => ?_) (fun e85 h3 => ?_))
  · skip
    have h2 : fr kF_fm_goesOn kA_fm_goesOn m e82 := (fr_s h1 fr_0 rfl rfl)
    exact RP_w (u_kfl_fm_goesOn_91 v1 e82) (fun z hz => (fr_s hz h2 rfl rfl))
  · skip
    have h4 : fr kF_fm_goesOn kA_fm_goesOn m e85.2 := (fr_s h3 fr_0 rfl rfl)
    exact RP_some h4
theorem u_kfl_fm_goesOn_29 (m : mR) : RP (kfl_fm_goesOn_29 m) (fun z : Int × Int × mR => fr kF_fm_goesOn kA_fm_goesOn m z.2.2) := by
  unfold kfl_fm_goesOn_29
  refine RP_bndT (fun y87 => ?_)
  refine RP_ite (fun h1 => ?_) (fun h1 => ?_)
  · skip
    exact RP_w (u_kfl_fm_goesOn_60 y87 1 m) (fun z hz => (fr_s hz fr_0 rfl rfl))
  · skip
    refine RP_ite (fun h2 => ?_) (fun h2 => ?_)
    · skip
      exact RP_w (u_kfl_fm_goesOn_60 y87 (cut (y87 + 1)) m) (fun z hz => (fr_s hz fr_0 rfl rfl))
    · skip
      exact RP_w (u_kfl_fm_goesOn_60 y87 y87 m) (fun z hz => (fr_s hz fr_0 rfl rfl))
theorem u_kfb_fm_goesOn_2 (s : Int × mR) : RP (kfb_fm_goesOn_2 s) (sel (fun z : (Int × mR) => fr kF_fm_goesOn kA_fm_goesOn s.2 z.2) (sel (fun z : (mR) => fr kF_fm_goesOn kA_fm_goesOn s.2 z) (fun z : Int × mR => fr kF_fm_goesOn kA_fm_goesOn s.2 z.2))) := by
  unfold kfb_fm_goesOn_2
  refine RP_ite (fun h1 => ?_) (fun h1 => ?_)
  · skip
    exact RP_some fr_0
  · skip
    refine RP_bndT (fun y94 => ?_)
    refine RP_bndT (fun y97 => ?_)
    refine RP_ite (fun h2 => ?_) (fun h2 => ?_)
    · skip
      exact RP_some fr_0
    · skip
      refine RP_bnd (u_kf_fm_closeSingle s.2) (fun y101 h3 => ?_)
      have h4 : fr kF_fm_goesOn kA_fm_goesOn s.2 y101.2.2 := (fr_s h3 fr_0 rfl rfl)
      refine RP_ite (fun h5 => ?_) (fun h5 => ?_)
      · skip
        exact RP_some h4
      · skip
        exact RP_some h4
theorem uw_kfb_fm_goesOn_2 (s : Int × mR) : RP (whl kfb_fm_goesOn_2 s) (sel (fun z : ((mR)) => fr kF_fm_goesOn kA_fm_goesOn s.2 z) (fun z : Int × mR => fr kF_fm_goesOn kA_fm_goesOn s.2 z.2)) := RP_whl (I := fun q : Int × mR => fr kF_fm_goesOn kA_fm_goesOn s.2 q.2) (fun q hq => RP_w (u_kfb_fm_goesOn_2 q) (sl_w (fun z hz => (fr_s hz hq rfl rfl)) (sl_w (fun z hz => (fr_s hz hq rfl rfl)) (fun z hz => (fr_s hz hq rfl rfl))))) fr_0
theorem u_kf_fm_goesOn (m : mR) : RP (kf_fm_goesOn m) (fun z : Int × Int × mR => fr kF_fm_goesOn kA_fm_goesOn m z.2.2) := by
  unfold kf_fm_goesOn
  refine RP_bnd (uw_kfb_fm_goesOn_2 (0, m)) (RP_sl (fun e104 h1 => ?_) (fun e107 h3 => ?_))
  · skip
    have h2 : fr kF_fm_goesOn kA_fm_goesOn m e104 := (fr_s h1 fr_0 rfl rfl)
    exact RP_w (u_kfl_fm_goesOn_29 e104) (fun z hz => (fr_s hz h2 rfl rfl))
  · skip
    have h4 : fr kF_fm_goesOn kA_fm_goesOn m e107.2 := (fr_s h3 fr_0 rfl rfl)
    exact RP_some h4
def kF_fm_prefixes : List Nat := [205, 206, 207, 208, 209, 210, 211, 212, 228, 230]
def kA_fm_prefixes : List Nat := [68, 69]
theorem u_kfl_fm_prefixes_144 (v1 : Int) (v2 : Int) (m : mR) : RP (kfl_fm_prefixes_144 v1 v2 m) (sel (fun z : (Int × Int × mR) => fr kF_fm_prefixes kA_fm_prefixes m z.2.2) (sel (fun z : (mR) => fr kF_fm_prefixes kA_fm_prefixes m z) (fun z : Int × mR => fr kF_fm_prefixes kA_fm_prefixes m z.2))) := by
  unfold kfl_fm_prefixes_144
  exact RP_some fr_0
theorem u_kfl_fm_prefixes_136 (v1 : Int) (v2 : Int) (u1 : Int) (m : mR) : RP (kfl_fm_prefixes_136 v1 v2 u1 m) (sel (fun z : (Int × Int × mR) => fr kF_fm_prefixes kA_fm_prefixes m z.2.2) (sel (fun z : (mR) => fr kF_fm_prefixes kA_fm_prefixes m z) (fun z : Int × mR => fr kF_fm_prefixes kA_fm_prefixes m z.2))) := by
  unfold kfl_fm_prefixes_136
  refine RP_bnd (u_kf_fm_open u1 m) (fun y2 h1 => ?_)
  have h2 : fr kF_fm_prefixes kA_fm_prefixes m y2.2.2 := (fr_s h1 fr_0 rfl rfl)
  refine RP_ite (fun h3 => ?_) (fun h3 => ?_)
  · skip
    exact RP_w (u_kfl_fm_prefixes_144 v1 v2 y2.2.2) (sl_w (fun z hz => (fr_s hz h2 rfl rfl)) (sl_w (fun z hz => (fr_s hz h2 rfl rfl)) (fun z hz => (fr_s hz h2 rfl rfl))))
  · skip
    exact RP_some h2
theorem u_kfl_fm_prefixes_100 (v1 : Int) (v2 : Int) (m : mR) : RP (kfl_fm_prefixes_100 v1 v2 m) (sel (fun z : (Int × Int × mR) => fr kF_fm_prefixes kA_fm_prefixes m z.2.2) (sel (fun z : (mR) => fr kF_fm_prefixes kA_fm_prefixes m z) (fun z : Int × mR => fr kF_fm_prefixes kA_fm_prefixes m z.2))) := by
  unfold kfl_fm_prefixes_100
  refine RP_ite (fun h1 => ?_) (fun h1 => ?_)
  · skip
    exact RP_w (u_kfl_fm_prefixes_136 v1 v2 405 (mO m [(230, cut ((m.1 230) + 1))] [])) (sl_w (fun z hz => (fr_s hz (fr_m fr_0 rfl rfl) rfl rfl)) (sl_w (fun z hz => (fr_s hz (fr_m fr_0 rfl rfl) rfl rfl)) (fun z hz => (fr_s hz (fr_m fr_0 rfl rfl) rfl rfl))))
  · skip
    exact RP_w (u_kfl_fm_prefixes_136 v1 v2 (m.1 206) (mO m [(230, cut ((m.1 230) + 1))] [])) (sl_w (fun z hz => (fr_s hz (fr_m fr_0 rfl rfl) rfl rfl)) (sl_w (fun z hz => (fr_s hz (fr_m fr_0 rfl rfl) rfl rfl)) (fun z hz => (fr_s hz (fr_m fr_0 rfl rfl) rfl rfl))))
theorem u_kfl_fm_prefixes_76 (v1 : Int) (v2 : Int) (m : mR) : RP (kfl_fm_prefixes_76 v1 v2 m) (sel (fun z : (Int × Int × mR) => fr kF_fm_prefixes kA_fm_prefixes m z.2.2) (sel (fun z : (mR) => fr kF_fm_prefixes kA_fm_prefixes m z) (fun z : Int × mR => fr kF_fm_prefixes kA_fm_prefixes m z.2))) := by
  unfold kfl_fm_prefixes_76
  refine RP_ite (fun h1 => ?_) (fun h1 => ?_)
  · skip
    exact RP_w (u_kfl_fm_prefixes_100 v1 v2 m) (sl_w (fun z hz => (fr_s hz fr_0 rfl rfl)) (sl_w (fun z hz => (fr_s hz fr_0 rfl rfl)) (fun z hz => (fr_s hz fr_0 rfl rfl))))
  · skip
    refine RP_bnd (u_kf_tx_fail 4 (m.1 207) m) (fun y7 h2 => ?_)
    have h3 : fr kF_fm_prefixes kA_fm_prefixes m y7.2.2 := (fr_s h2 fr_0 rfl rfl)
    refine RP_ite (fun h4 => ?_) (fun h4 => ?_)
    · skip
      exact RP_w (u_kfl_fm_prefixes_100 v1 v2 y7.2.2) (sl_w (fun z hz => (fr_s hz h3 rfl rfl)) (sl_w (fun z hz => (fr_s hz h3 rfl rfl)) (fun z hz => (fr_s hz h3 rfl rfl))))
    · skip
      exact RP_some h3
theorem u_kfb_fm_prefixes_4 (s : Int × Int × mR) : RP (kfb_fm_prefixes_4 s) (sel (fun z : (Int × Int × mR) => fr kF_fm_prefixes kA_fm_prefixes s.2.2 z.2.2) (sel (fun z : (mR) => fr kF_fm_prefixes kA_fm_prefixes s.2.2 z) (fun z : Int × mR => fr kF_fm_prefixes kA_fm_prefixes s.2.2 z.2))) := by
  unfold kfb_fm_prefixes_4
  refine RP_ite (fun h1 => ?_) (fun h1 => ?_)
  · skip
    exact RP_some fr_0
  · skip
    refine RP_ite (fun h2 => ?_) (fun h2 => ?_)
    · skip
      exact RP_some fr_0
    · skip
      refine RP_ite (fun h3 => ?_) (fun h3 => ?_)
      · skip
        refine RP_bnd (u_kf_fm_open 40 s.2.2) (fun y17 h4 => ?_)
        have h5 : fr kF_fm_prefixes kA_fm_prefixes s.2.2 y17.2.2 := (fr_s h4 fr_0 rfl rfl)
        refine RP_ite (fun h6 => ?_) (fun h6 => ?_)
        · skip
          refine RP_bnd (u_kf_fm_deepen y17.2.2) (fun y20 h7 => ?_)
          have h8 : fr kF_fm_prefixes kA_fm_prefixes s.2.2 y20.2.2 := (fr_s h7 h5 rfl rfl)
          refine RP_ite (fun h9 => ?_) (fun h9 => ?_)
          · skip
            exact RP_w (u_kfl_fm_prefixes_144 s.1 s.2.1 y20.2.2) (sl_w (fun z hz => (fr_s hz h8 rfl rfl)) (sl_w (fun z hz => (fr_s hz h8 rfl rfl)) (fun z hz => (fr_s hz h8 rfl rfl))))
          · skip
            exact RP_some h8
        · skip
          exact RP_some h5
      · skip
        refine RP_ite (fun h10 => ?_) (fun h10 => ?_)
        · skip
          exact RP_w (u_kfl_fm_prefixes_76 s.1 s.2.1 s.2.2) (sl_w (fun z hz => (fr_s hz fr_0 rfl rfl)) (sl_w (fun z hz => (fr_s hz fr_0 rfl rfl)) (fun z hz => (fr_s hz fr_0 rfl rfl))))
        · skip
          refine RP_ite (fun h11 => ?_) (fun h11 => ?_)
          · skip
            exact RP_w (u_kfl_fm_prefixes_76 s.1 s.2.1 s.2.2) (sl_w (fun z hz => (fr_s hz fr_0 rfl rfl)) (sl_w (fun z hz => (fr_s hz fr_0 rfl rfl)) (fun z hz => (fr_s hz fr_0 rfl rfl))))
          · skip
            refine RP_ite (fun h12 => ?_) (fun h12 => ?_)
            · skip
              exact RP_w (u_kfl_fm_prefixes_76 s.1 s.2.1 s.2.2) (sl_w (fun z hz => (fr_s hz fr_0 rfl rfl)) (sl_w (fun z hz => (fr_s hz fr_0 rfl rfl)) (fun z hz => (fr_s hz fr_0 rfl rfl))))
            · skip
              exact RP_w (u_kfl_fm_prefixes_144 0 s.2.1 s.2.2) (sl_w (fun z hz => (fr_s hz fr_0 rfl rfl)) (sl_w (fun z hz => (fr_s hz fr_0 rfl rfl)) (fun z hz => (fr_s hz fr_0 rfl rfl))))
theorem uw_kfb_fm_prefixes_4 (s : Int × Int × mR) : RP (whl kfb_fm_prefixes_4 s) (sel (fun z : ((mR)) => fr kF_fm_prefixes kA_fm_prefixes s.2.2 z) (fun z : Int × mR => fr kF_fm_prefixes kA_fm_prefixes s.2.2 z.2)) := RP_whl (I := fun q : Int × Int × mR => fr kF_fm_prefixes kA_fm_prefixes s.2.2 q.2.2) (fun q hq => RP_w (u_kfb_fm_prefixes_4 q) (sl_w (fun z hz => (fr_s hz hq rfl rfl)) (sl_w (fun z hz => (fr_s hz hq rfl rfl)) (fun z hz => (fr_s hz hq rfl rfl))))) fr_0
theorem u_kf_fm_prefixes (m : mR) : RP (kf_fm_prefixes m) (fun z : Int × Int × mR => fr kF_fm_prefixes kA_fm_prefixes m z.2.2) := by
  unfold kf_fm_prefixes
  refine RP_bnd (uw_kfb_fm_prefixes_4 (1, 0, m)) (RP_sl (fun e23 h1 => ?_) (fun e26 h3 => ?_))
  · skip
    have h2 : fr kF_fm_prefixes kA_fm_prefixes m e23 := (fr_s h1 fr_0 rfl rfl)
    exact RP_some h2
  · skip
    have h4 : fr kF_fm_prefixes kA_fm_prefixes m e26.2 := (fr_s h3 fr_0 rfl rfl)
    exact RP_some h4
def kF_fm_atom : List Nat := [205, 206, 207, 208, 209, 210, 211, 212, 213, 220, 229]
def kA_fm_atom : List Nat := [18, 19, 20, 22, 23, 24, 70]
theorem u_kfl_fm_atom_220 (m : mR) : RP (kfl_fm_atom_220 m) (fun z : Int × Int × mR => fr kF_fm_atom kA_fm_atom m z.2.2) := by
  unfold kfl_fm_atom_220
  exact RP_some fr_0
theorem u_kf_fm_atom (m : mR) : RP (kf_fm_atom m) (fun z : Int × Int × mR => fr kF_fm_atom kA_fm_atom m z.2.2) := by
  unfold kf_fm_atom
  refine RP_ite (fun h1 => ?_) (fun h1 => ?_)
  · skip
    refine RP_bnd (u_kf_tx_advance m) (fun y35 h2 => ?_)
    have h3 : fr kF_fm_atom kA_fm_atom m y35.2.2 := (fr_s h2 fr_0 rfl rfl)
    refine RP_ite (fun h4 => ?_) (fun h4 => ?_)
    · skip
      refine RP_bnd (u_kf_fm_add 257 0 0 64 (m.1 207) y35.2.2) (fun y38 h5 => ?_)
      have h6 : fr kF_fm_atom kA_fm_atom m y38.2 := (fr_s h5 h3 rfl rfl)
      exact RP_some (fr_m h6 rfl rfl)
    · skip
      exact RP_some h3
  · skip
    refine RP_ite (fun h7 => ?_) (fun h7 => ?_)
    · skip
      refine RP_bnd (u_kf_tx_advance m) (fun y26 h8 => ?_)
      have h9 : fr kF_fm_atom kA_fm_atom m y26.2.2 := (fr_s h8 fr_0 rfl rfl)
      refine RP_ite (fun h10 => ?_) (fun h10 => ?_)
      · skip
        refine RP_bnd (u_kf_tx_known 301 y26.2.2) (fun y29 h11 => ?_)
        have h12 : fr kF_fm_atom kA_fm_atom m y29.2.2 := (fr_s h11 h9 rfl rfl)
        refine RP_ite (fun h13 => ?_) (fun h13 => ?_)
        · skip
          refine RP_bnd (u_kf_fm_add 400 (cut (y29.2.1 * 17)) 0 1 (m.1 207) y29.2.2) (fun y32 h14 => ?_)
          have h15 : fr kF_fm_atom kA_fm_atom m y32.2 := (fr_s h14 h12 rfl rfl)
          exact RP_some h15
        · skip
          exact RP_some h12
      · skip
        exact RP_some h9
    · skip
      refine RP_ite (fun h16 => ?_) (fun h16 => ?_)
      · skip
        refine RP_bndT (fun y7 => ?_)
        refine RP_ite (fun h17 => ?_) (fun h17 => ?_)
        · skip
          refine RP_bnd (u_kf_fm_placeSlot m) (fun y11 h18 => ?_)
          have h19 : fr kF_fm_atom kA_fm_atom m y11.2.2 := (fr_s h18 fr_0 rfl rfl)
          refine RP_ite (fun h20 => ?_) (fun h20 => ?_)
          · skip
            refine RP_bndT (fun y14 => ?_)
            refine RP_bnd (u_kf_fm_add 400 y11.2.1 0 y14 (m.1 207) y11.2.2) (fun y17 h21 => ?_)
            have h22 : fr kF_fm_atom kA_fm_atom m y17.2 := (fr_s h21 h19 rfl rfl)
            exact RP_w (u_kfl_fm_atom_220 y17.2) (fun z hz => (fr_s hz h22 rfl rfl))
          · skip
            exact RP_some h19
        · skip
          refine RP_bnd (u_kf_tx_advance m) (fun y20 h23 => ?_)
          have h24 : fr kF_fm_atom kA_fm_atom m y20.2.2 := (fr_s h23 fr_0 rfl rfl)
          refine RP_ite (fun h25 => ?_) (fun h25 => ?_)
          · skip
            refine RP_bnd (u_kf_fm_add 401 y7 0 ((m.2 40) (cut ((cut ((m.1 231) * 4)) + y7))) (m.1 207) y20.2.2) (fun y23 h26 => ?_)
            have h27 : fr kF_fm_atom kA_fm_atom m y23.2 := (fr_s h26 h24 rfl rfl)
            exact RP_w (u_kfl_fm_atom_220 y23.2) (fun z hz => (fr_s hz h27 rfl rfl))
          · skip
            exact RP_some h24
      · skip
        refine RP_bnd (u_kf_tx_refuse m) (fun y4 h28 => ?_)
        have h29 : fr kF_fm_atom kA_fm_atom m y4.2.2 := (fr_s h28 fr_0 rfl rfl)
        refine RP_ite (fun h30 => ?_) (fun h30 => ?_)
        · skip
          exact RP_some h29
        · skip
          exact RP_some h29
def kF_fm_whole : List Nat := [205, 206, 207, 208, 209, 210, 211, 212, 213, 220, 228, 229, 230, 231]
def kA_fm_whole : List Nat := [18, 19, 20, 21, 22, 23, 24, 68, 69, 70]
theorem u_kfl_fm_whole_63 (m : mR) : RP (kfl_fm_whole_63 m) (fun z : Int × Int × mR => fr kF_fm_whole kA_fm_whole m z.2.2) := by
  unfold kfl_fm_whole_63
  exact RP_some fr_0
theorem u_kfl_fm_whole_48 (v3 : Int) (m : mR) : RP (kfl_fm_whole_48 v3 m) (sel (fun z : (Int × Int × mR) => fr kF_fm_whole kA_fm_whole m z.2.2) (sel (fun z : (mR) => fr kF_fm_whole kA_fm_whole m z) (fun z : Int × mR => fr kF_fm_whole kA_fm_whole m z.2))) := by
  unfold kfl_fm_whole_48
  refine RP_bnd (u_kf_fm_suffixes m) (fun y2 h1 => ?_)
  have h2 : fr kF_fm_whole kA_fm_whole m y2.2.2 := (fr_s h1 fr_0 rfl rfl)
  refine RP_ite (fun h3 => ?_) (fun h3 => ?_)
  · skip
    refine RP_bnd (u_kf_fm_goesOn y2.2.2) (fun y5 h4 => ?_)
    have h5 : fr kF_fm_whole kA_fm_whole m y5.2.2 := (fr_s h4 h2 rfl rfl)
    refine RP_ite (fun h6 => ?_) (fun h6 => ?_)
    · skip
      exact RP_some h5
    · skip
      exact RP_some h5
  · skip
    exact RP_some h2
theorem u_kfb_fm_whole_24 (s : Int × Int × mR) : RP (kfb_fm_whole_24 s) (sel (fun z : (Int × Int × mR) => fr kF_fm_whole kA_fm_whole s.2.2 z.2.2) (sel (fun z : (mR) => fr kF_fm_whole kA_fm_whole s.2.2 z) (fun z : Int × mR => fr kF_fm_whole kA_fm_whole s.2.2 z.2))) := by
  unfold kfb_fm_whole_24
  refine RP_ite (fun h1 => ?_) (fun h1 => ?_)
  · skip
    exact RP_some fr_0
  · skip
    refine RP_ite (fun h2 => ?_) (fun h2 => ?_)
    · skip
      exact RP_some fr_0
    · skip
      refine RP_ite (fun h3 => ?_) (fun h3 => ?_)
      · skip
        refine RP_bnd (u_kf_fm_prefixes s.2.2) (fun y12 h4 => ?_)
        have h5 : fr kF_fm_whole kA_fm_whole s.2.2 y12.2.2 := (fr_s h4 fr_0 rfl rfl)
        refine RP_ite (fun h6 => ?_) (fun h6 => ?_)
        · skip
          refine RP_bnd (u_kf_fm_atom y12.2.2) (fun y15 h7 => ?_)
          have h8 : fr kF_fm_whole kA_fm_whole s.2.2 y15.2.2 := (fr_s h7 h5 rfl rfl)
          refine RP_ite (fun h9 => ?_) (fun h9 => ?_)
          · skip
            exact RP_w (u_kfl_fm_whole_48 s.2.1 y15.2.2) (sl_w (fun z hz => (fr_s hz h8 rfl rfl)) (sl_w (fun z hz => (fr_s hz h8 rfl rfl)) (fun z hz => (fr_s hz h8 rfl rfl))))
          · skip
            exact RP_some h8
        · skip
          exact RP_some h5
      · skip
        exact RP_w (u_kfl_fm_whole_48 s.2.1 s.2.2) (sl_w (fun z hz => (fr_s hz fr_0 rfl rfl)) (sl_w (fun z hz => (fr_s hz fr_0 rfl rfl)) (fun z hz => (fr_s hz fr_0 rfl rfl))))
theorem uw_kfb_fm_whole_24 (s : Int × Int × mR) : RP (whl kfb_fm_whole_24 s) (sel (fun z : ((mR)) => fr kF_fm_whole kA_fm_whole s.2.2 z) (fun z : Int × mR => fr kF_fm_whole kA_fm_whole s.2.2 z.2)) := RP_whl (I := fun q : Int × Int × mR => fr kF_fm_whole kA_fm_whole s.2.2 q.2.2) (fun q hq => RP_w (u_kfb_fm_whole_24 q) (sl_w (fun z hz => (fr_s hz hq rfl rfl)) (sl_w (fun z hz => (fr_s hz hq rfl rfl)) (fun z hz => (fr_s hz hq rfl rfl))))) fr_0
theorem u_kf_fm_whole (v1 : Int) (m : mR) : RP (kf_fm_whole v1 m) (fun z : Int × Int × mR => fr kF_fm_whole kA_fm_whole m z.2.2) := by
  unfold kf_fm_whole
  refine RP_bnd (uw_kfb_fm_whole_24 (1, 0, (mO m [(228, 0), (229, 0), (230, 1), (231, v1)] []))) (RP_sl (fun e18 h1 => ?_) (fun e21 h3 => ?_))
  · skip
    have h2 : fr kF_fm_whole kA_fm_whole m e18 := (fr_s h1 (fr_m fr_0 rfl rfl) rfl rfl)
    exact RP_w (u_kfl_fm_whole_63 e18) (fun z hz => (fr_s hz h2 rfl rfl))
  · skip
    have h4 : fr kF_fm_whole kA_fm_whole m e21.2 := (fr_s h3 (fr_m fr_0 rfl rfl) rfl rfl)
    exact RP_some h4
def kF_fm_mustFit : List Nat := [211, 212]
def kA_fm_mustFit : List Nat := [22]
theorem u_kf_fm_mustFit (v1 : Int) (v2 : Int) (m : mR) : RP (kf_fm_mustFit v1 v2 m) (fun z : Int × Int × mR => fr kF_fm_mustFit kA_fm_mustFit m z.2.2) := by
  unfold kf_fm_mustFit
  refine RP_bnd (u_kf_nd_fits v1 v2 m) (fun y1 h1 => ?_)
  have h2 : fr kF_fm_mustFit kA_fm_mustFit m y1.2 := (fr_s h1 fr_0 rfl rfl)
  refine RP_ite (fun h3 => ?_) (fun h3 => ?_)
  · skip
    refine RP_bnd (u_kf_tx_fail 7 ((y1.2.2 23) v1) y1.2) (fun y5 h4 => ?_)
    have h5 : fr kF_fm_mustFit kA_fm_mustFit m y5.2.2 := (fr_s h4 h2 rfl rfl)
    refine RP_ite (fun h6 => ?_) (fun h6 => ?_)
    · skip
      exact RP_some h5
    · skip
      exact RP_some h5
  · skip
    exact RP_some h2
