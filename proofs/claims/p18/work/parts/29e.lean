def kF_pw_read : List Nat := [200, 201, 202, 203, 204, 205, 206, 207, 208, 209, 210, 211, 212, 213, 214, 215, 216, 217, 218, 219, 220, 221, 222, 223, 224, 225, 226, 227, 228, 229, 230, 231, 232, 233, 234, 235]
def kA_pw_read : List Nat := [6, 7, 8, 9, 10, 11, 12, 13, 14, 15, 16, 17, 18, 19, 20, 21, 22, 23, 24, 26, 27, 28, 29, 30, 31, 32, 33, 34, 35, 36, 37, 38, 39, 40, 41, 42, 43, 44, 45, 46, 47, 48, 49, 50, 51, 52, 53, 54, 55, 56, 57, 58, 66, 67, 68, 69, 70, 71, 72, 73, 74, 75, 76, 77, 78, 79, 80, 81, 82, 83, 84, 106]
def F_kfl_pw_read_241 : List Nat := [201, 205, 206, 207, 208, 209, 210, 211, 212, 218]
def A_kfl_pw_read_241 : List Nat := [17, 38]
theorem u_kfl_pw_read_241 (m : mR) : RP (kfl_pw_read_241 m) (fun z : Int × Int × mR => fr F_kfl_pw_read_241 A_kfl_pw_read_241 m z.2.2) := by
  unfold kfl_pw_read_241
  refine RP_bnd (u_kf_rd_emit m) (fun y3 h1 => ?_)
  have h2 : fr F_kfl_pw_read_241 A_kfl_pw_read_241 m y3.2.2 := (fr_s h1 fr_0 rfl rfl)
  refine RP_ite (fun h3 => ?_) (fun h3 => ?_)
  · skip
    refine RP_bnd (u_kf_rd_close y3.2.2) (fun y6 h4 => ?_)
    have h5 : fr F_kfl_pw_read_241 A_kfl_pw_read_241 m y6.2.2 := (fr_s h4 h2 rfl rfl)
    refine RP_ite (fun h6 => ?_) (fun h6 => ?_)
    · skip
      exact RP_some (fr_m h5 rfl rfl)
    · skip
      exact RP_some h5
  · skip
    exact RP_some h2
def F_kfb_pw_read_211 : List Nat := [205, 206, 207, 208, 209, 210, 211, 212, 213, 220, 224, 225, 227, 228, 229, 230, 231]
def A_kfb_pw_read_211 : List Nat := [18, 19, 20, 21, 22, 23, 24, 45, 46, 47, 48, 49, 50, 51, 52, 53, 54, 55, 56, 57, 58, 66, 67, 68, 69, 70]
theorem u_kfb_pw_read_211 (s : Int × mR) : RP (kfb_pw_read_211 s) (sel (fun z : (Int × mR) => fr F_kfb_pw_read_211 A_kfb_pw_read_211 s.2 z.2) (sel (fun z : (mR) => fr F_kfb_pw_read_211 A_kfb_pw_read_211 s.2 z) (fun z : Int × mR => fr F_kfb_pw_read_211 A_kfb_pw_read_211 s.2 z.2))) := by
  unfold kfb_pw_read_211
  refine RP_ite (fun h1 => ?_) (fun h1 => ?_)
  · skip
    exact RP_some fr_0
  · skip
    refine RP_ite (fun h2 => ?_) (fun h2 => ?_)
    · skip
      exact RP_some fr_0
    · skip
      refine RP_bnd (u_kf_rd_inBlock s.2) (fun y12 h3 => ?_)
      have h4 : fr F_kfb_pw_read_211 A_kfb_pw_read_211 s.2 y12.2.2 := (fr_s h3 fr_0 rfl rfl)
      refine RP_ite (fun h5 => ?_) (fun h5 => ?_)
      · skip
        exact RP_some h4
      · skip
        exact RP_some h4
theorem uw_kfb_pw_read_211 (s : Int × mR) : RP (whl kfb_pw_read_211 s) (sel (fun z : ((mR)) => fr F_kfb_pw_read_211 A_kfb_pw_read_211 s.2 z) (fun z : Int × mR => fr F_kfb_pw_read_211 A_kfb_pw_read_211 s.2 z.2)) := RP_whl (I := fun q : Int × mR => fr F_kfb_pw_read_211 A_kfb_pw_read_211 s.2 q.2) (fun q hq => RP_w (u_kfb_pw_read_211 q) (sl_w (fun z hz => (fr_s hz hq rfl rfl)) (sl_w (fun z hz => (fr_s hz hq rfl rfl)) (fun z hz => (fr_s hz hq rfl rfl))))) fr_0
def F_kfl_pw_read_202 : List Nat := [201, 205, 206, 207, 208, 209, 210, 211, 212, 213, 218, 220, 224, 225, 227, 228, 229, 230, 231]
def A_kfl_pw_read_202 : List Nat := [17, 18, 19, 20, 21, 22, 23, 24, 38, 45, 46, 47, 48, 49, 50, 51, 52, 53, 54, 55, 56, 57, 58, 66, 67, 68, 69, 70]
theorem u_kfl_pw_read_202 (m : mR) : RP (kfl_pw_read_202 m) (fun z : Int × Int × mR => fr F_kfl_pw_read_202 A_kfl_pw_read_202 m z.2.2) := by
  unfold kfl_pw_read_202
  refine RP_bnd (u_kf_rd_openControl m) (fun y15 h1 => ?_)
  have h2 : fr F_kfl_pw_read_202 A_kfl_pw_read_202 m y15.2.2 := (fr_s h1 fr_0 rfl rfl)
  refine RP_ite (fun h3 => ?_) (fun h3 => ?_)
  · skip
    refine RP_bnd (uw_kfb_pw_read_211 (0, y15.2.2)) (RP_sl (fun e18 h4 => ?_) (fun e21 h6 => ?_))
    · skip
      have h5 : fr F_kfl_pw_read_202 A_kfl_pw_read_202 m e18 := (fr_s h4 h2 rfl rfl)
      exact RP_w (u_kfl_pw_read_241 e18) (fun z hz => (fr_s hz h5 rfl rfl))
    · skip
      have h7 : fr F_kfl_pw_read_202 A_kfl_pw_read_202 m e21.2 := (fr_s h6 h2 rfl rfl)
      exact RP_some h7
  · skip
    exact RP_some h2
def F_kfl_pw_read_196 : List Nat := []
def A_kfl_pw_read_196 : List Nat := []
theorem u_kfl_pw_read_196 (v2 : Int) (v3 : Int) (m : mR) : RP (kfl_pw_read_196 v2 v3 m) (sel (fun z : (Int × Int × mR) => fr F_kfl_pw_read_196 A_kfl_pw_read_196 m z.2.2) (sel (fun z : (mR) => fr F_kfl_pw_read_196 A_kfl_pw_read_196 m z) (fun z : Int × mR => fr F_kfl_pw_read_196 A_kfl_pw_read_196 m z.2))) := by
  unfold kfl_pw_read_196
  exact RP_some fr_0
def F_kfl_pw_read_194 : List Nat := []
def A_kfl_pw_read_194 : List Nat := []
theorem u_kfl_pw_read_194 (v3 : Int) (m : mR) : RP (kfl_pw_read_194 v3 m) (sel (fun z : (Int × Int × mR) => fr F_kfl_pw_read_194 A_kfl_pw_read_194 m z.2.2) (sel (fun z : (mR) => fr F_kfl_pw_read_194 A_kfl_pw_read_194 m z) (fun z : Int × mR => fr F_kfl_pw_read_194 A_kfl_pw_read_194 m z.2))) := by
  unfold kfl_pw_read_194
  exact RP_w (u_kfl_pw_read_196 0 v3 m) (sl_w (fun z hz => (fr_s hz fr_0 rfl rfl)) (sl_w (fun z hz => (fr_s hz fr_0 rfl rfl)) (fun z hz => (fr_s hz fr_0 rfl rfl))))
def F_kfb_pw_read_46 : List Nat := [203, 205, 206, 207, 208, 209, 210, 211, 212, 213, 214, 215, 216, 217, 219, 220, 221, 222, 223, 224, 228, 229, 230, 231]
def A_kfb_pw_read_46 : List Nat := [6, 7, 8, 9, 10, 11, 12, 13, 14, 15, 16, 18, 19, 20, 21, 22, 23, 24, 26, 27, 28, 29, 30, 31, 32, 33, 34, 35, 36, 37, 39, 40, 41, 42, 43, 44, 45, 46, 47, 48, 49, 50, 51, 68, 69, 70, 72, 73, 74, 75, 76, 77, 78, 79, 80, 81, 82, 83, 84]
theorem u_kfb_pw_read_46 (s : Int × Int × mR) : RP (kfb_pw_read_46 s) (sel (fun z : (Int × Int × mR) => fr F_kfb_pw_read_46 A_kfb_pw_read_46 s.2.2 z.2.2) (sel (fun z : (mR) => fr F_kfb_pw_read_46 A_kfb_pw_read_46 s.2.2 z) (fun z : Int × mR => fr F_kfb_pw_read_46 A_kfb_pw_read_46 s.2.2 z.2))) := by
  unfold kfb_pw_read_46
  refine RP_ite (fun h1 => ?_) (fun h1 => ?_)
  · skip
    exact RP_some fr_0
  · skip
    refine RP_ite (fun h2 => ?_) (fun h2 => ?_)
    · skip
      exact RP_some fr_0
    · skip
      refine RP_ite (fun h3 => ?_) (fun h3 => ?_)
      · skip
        refine RP_bnd (u_kf_rd_header s.2.2) (fun y27 h4 => ?_)
        have h5 : fr F_kfb_pw_read_46 A_kfb_pw_read_46 s.2.2 y27.2.2 := (fr_s h4 fr_0 rfl rfl)
        refine RP_ite (fun h6 => ?_) (fun h6 => ?_)
        · skip
          exact RP_w (u_kfl_pw_read_196 s.1 s.2.1 y27.2.2) (sl_w (fun z hz => (fr_s hz h5 rfl rfl)) (sl_w (fun z hz => (fr_s hz h5 rfl rfl)) (fun z hz => (fr_s hz h5 rfl rfl))))
        · skip
          exact RP_some h5
      · skip
        refine RP_ite (fun h7 => ?_) (fun h7 => ?_)
        · skip
          refine RP_bnd (u_kf_rd_instance s.2.2) (fun y31 h8 => ?_)
          have h9 : fr F_kfb_pw_read_46 A_kfb_pw_read_46 s.2.2 y31.2.2 := (fr_s h8 fr_0 rfl rfl)
          refine RP_ite (fun h10 => ?_) (fun h10 => ?_)
          · skip
            exact RP_w (u_kfl_pw_read_196 s.1 s.2.1 y31.2.2) (sl_w (fun z hz => (fr_s hz h9 rfl rfl)) (sl_w (fun z hz => (fr_s hz h9 rfl rfl)) (fun z hz => (fr_s hz h9 rfl rfl))))
          · skip
            exact RP_some h9
        · skip
          refine RP_ite (fun h11 => ?_) (fun h11 => ?_)
          · skip
            refine RP_bnd (u_kf_rd_meta s.2.2) (fun y35 h12 => ?_)
            have h13 : fr F_kfb_pw_read_46 A_kfb_pw_read_46 s.2.2 y35.2.2 := (fr_s h12 fr_0 rfl rfl)
            refine RP_ite (fun h14 => ?_) (fun h14 => ?_)
            · skip
              exact RP_w (u_kfl_pw_read_196 s.1 s.2.1 y35.2.2) (sl_w (fun z hz => (fr_s hz h13 rfl rfl)) (sl_w (fun z hz => (fr_s hz h13 rfl rfl)) (fun z hz => (fr_s hz h13 rfl rfl))))
            · skip
              exact RP_some h13
          · skip
            refine RP_ite (fun h15 => ?_) (fun h15 => ?_)
            · skip
              refine RP_bnd (u_kf_rd_array s.2.2) (fun y39 h16 => ?_)
              have h17 : fr F_kfb_pw_read_46 A_kfb_pw_read_46 s.2.2 y39.2.2 := (fr_s h16 fr_0 rfl rfl)
              refine RP_ite (fun h18 => ?_) (fun h18 => ?_)
              · skip
                exact RP_w (u_kfl_pw_read_196 s.1 s.2.1 y39.2.2) (sl_w (fun z hz => (fr_s hz h17 rfl rfl)) (sl_w (fun z hz => (fr_s hz h17 rfl rfl)) (fun z hz => (fr_s hz h17 rfl rfl))))
              · skip
                exact RP_some h17
            · skip
              refine RP_ite (fun h19 => ?_) (fun h19 => ?_)
              · skip
                refine RP_bnd (u_kf_rd_state s.2.2) (fun y43 h20 => ?_)
                have h21 : fr F_kfb_pw_read_46 A_kfb_pw_read_46 s.2.2 y43.2.2 := (fr_s h20 fr_0 rfl rfl)
                refine RP_ite (fun h22 => ?_) (fun h22 => ?_)
                · skip
                  exact RP_w (u_kfl_pw_read_196 s.1 s.2.1 y43.2.2) (sl_w (fun z hz => (fr_s hz h21 rfl rfl)) (sl_w (fun z hz => (fr_s hz h21 rfl rfl)) (fun z hz => (fr_s hz h21 rfl rfl))))
                · skip
                  exact RP_some h21
              · skip
                refine RP_ite (fun h23 => ?_) (fun h23 => ?_)
                · skip
                  refine RP_bnd (u_kf_rd_action s.2.2) (fun y47 h24 => ?_)
                  have h25 : fr F_kfb_pw_read_46 A_kfb_pw_read_46 s.2.2 y47.2.2 := (fr_s h24 fr_0 rfl rfl)
                  refine RP_ite (fun h26 => ?_) (fun h26 => ?_)
                  · skip
                    exact RP_w (u_kfl_pw_read_196 s.1 s.2.1 y47.2.2) (sl_w (fun z hz => (fr_s hz h25 rfl rfl)) (sl_w (fun z hz => (fr_s hz h25 rfl rfl)) (fun z hz => (fr_s hz h25 rfl rfl))))
                  · skip
                    exact RP_some h25
                · skip
                  refine RP_ite (fun h27 => ?_) (fun h27 => ?_)
                  · skip
                    refine RP_bnd (u_kf_rd_table s.2.2) (fun y51 h28 => ?_)
                    have h29 : fr F_kfb_pw_read_46 A_kfb_pw_read_46 s.2.2 y51.2.2 := (fr_s h28 fr_0 rfl rfl)
                    refine RP_ite (fun h30 => ?_) (fun h30 => ?_)
                    · skip
                      exact RP_w (u_kfl_pw_read_196 s.1 s.2.1 y51.2.2) (sl_w (fun z hz => (fr_s hz h29 rfl rfl)) (sl_w (fun z hz => (fr_s hz h29 rfl rfl)) (fun z hz => (fr_s hz h29 rfl rfl))))
                    · skip
                      exact RP_some h29
                  · skip
                    refine RP_ite (fun h31 => ?_) (fun h31 => ?_)
                    · skip
                      exact RP_w (u_kfl_pw_read_194 s.2.1 s.2.2) (sl_w (fun z hz => (fr_s hz fr_0 rfl rfl)) (sl_w (fun z hz => (fr_s hz fr_0 rfl rfl)) (fun z hz => (fr_s hz fr_0 rfl rfl))))
                    · skip
                      refine RP_ite (fun h32 => ?_) (fun h32 => ?_)
                      · skip
                        exact RP_w (u_kfl_pw_read_194 s.2.1 s.2.2) (sl_w (fun z hz => (fr_s hz fr_0 rfl rfl)) (sl_w (fun z hz => (fr_s hz fr_0 rfl rfl)) (fun z hz => (fr_s hz fr_0 rfl rfl))))
                      · skip
                        refine RP_ite (fun h33 => ?_) (fun h33 => ?_)
                        · skip
                          exact RP_w (u_kfl_pw_read_194 s.2.1 s.2.2) (sl_w (fun z hz => (fr_s hz fr_0 rfl rfl)) (sl_w (fun z hz => (fr_s hz fr_0 rfl rfl)) (fun z hz => (fr_s hz fr_0 rfl rfl))))
                        · skip
                          refine RP_ite (fun h34 => ?_) (fun h34 => ?_)
                          · skip
                            exact RP_w (u_kfl_pw_read_194 s.2.1 s.2.2) (sl_w (fun z hz => (fr_s hz fr_0 rfl rfl)) (sl_w (fun z hz => (fr_s hz fr_0 rfl rfl)) (fun z hz => (fr_s hz fr_0 rfl rfl))))
                          · skip
                            exact RP_w (u_kfl_pw_read_194 s.2.1 s.2.2) (sl_w (fun z hz => (fr_s hz fr_0 rfl rfl)) (sl_w (fun z hz => (fr_s hz fr_0 rfl rfl)) (fun z hz => (fr_s hz fr_0 rfl rfl))))
theorem uw_kfb_pw_read_46 (s : Int × Int × mR) : RP (whl kfb_pw_read_46 s) (sel (fun z : ((mR)) => fr F_kfb_pw_read_46 A_kfb_pw_read_46 s.2.2 z) (fun z : Int × mR => fr F_kfb_pw_read_46 A_kfb_pw_read_46 s.2.2 z.2)) := RP_whl (I := fun q : Int × Int × mR => fr F_kfb_pw_read_46 A_kfb_pw_read_46 s.2.2 q.2.2) (fun q hq => RP_w (u_kfb_pw_read_46 q) (sl_w (fun z hz => (fr_s hz hq rfl rfl)) (sl_w (fun z hz => (fr_s hz hq rfl rfl)) (fun z hz => (fr_s hz hq rfl rfl))))) fr_0
theorem u_kf_pw_read (m : mR) : RP (kf_pw_read m) (fun z : Int × Int × mR => fr kF_pw_read kA_pw_read m z.2.2) := by
  unfold kf_pw_read
  refine RP_bnd (u_kf_pr_clear (mO m [(200, 0), (201, 0), (202, (-1))] [])) (fun y58 h1 => ?_)
  have h2 : fr kF_pw_read kA_pw_read m y58.2 := (fr_s h1 (fr_m fr_0 rfl rfl) rfl rfl)
  refine RP_bnd (u_kf_pi_clear y58.2) (fun y61 h3 => ?_)
  have h4 : fr kF_pw_read kA_pw_read m y61.2 := (fr_s h3 h2 rfl rfl)
  refine RP_bnd (u_kf_tx_open (m.1 200) y61.2) (fun y64 h5 => ?_)
  have h6 : fr kF_pw_read kA_pw_read m y64.2.2 := (fr_s h5 h4 rfl rfl)
  refine RP_ite (fun h7 => ?_) (fun h7 => ?_)
  · skip
    refine RP_bnd (uw_kfb_pw_read_46 (1, 0, y64.2.2)) (RP_sl (fun e67 h8 => ?_) (fun e70 h10 => ?_))
    · skip
      have h9 : fr kF_pw_read kA_pw_read m e67 := (fr_s h8 h6 rfl rfl)
      exact RP_w (u_kfl_pw_read_202 e67) (fun z hz => (fr_s hz h9 rfl rfl))
    · skip
      have h11 : fr kF_pw_read kA_pw_read m e70.2 := (fr_s h10 h6 rfl rfl)
      exact RP_some h11
  · skip
    exact RP_some h6
def kF_Arrays_fill0_b63 : List Nat := []
def kA_Arrays_fill0_b63 : List Nat := [63]
def F_kfb_Arrays_fill0_b63_5 : List Nat := []
def A_kfb_Arrays_fill0_b63_5 : List Nat := [63]
theorem u_kfb_Arrays_fill0_b63_5 (v1 : Int) (v3 : Int) (s : Int × mR) : RP (kfb_Arrays_fill0_b63_5 v1 v3 s) (sel (fun z : (Int × mR) => fr F_kfb_Arrays_fill0_b63_5 A_kfb_Arrays_fill0_b63_5 s.2 z.2) (fun z : mR => fr F_kfb_Arrays_fill0_b63_5 A_kfb_Arrays_fill0_b63_5 s.2 z)) := by
  unfold kfb_Arrays_fill0_b63_5
  refine RP_ite (fun h1 => ?_) (fun h1 => ?_)
  · skip
    exact RP_some fr_0
  · skip
    exact RP_some (fr_m fr_0 rfl rfl)
theorem uw_kfb_Arrays_fill0_b63_5 (v1 : Int) (v3 : Int) (s : Int × mR) : RP (whl (kfb_Arrays_fill0_b63_5 v1 v3) s) (fun z : mR => fr F_kfb_Arrays_fill0_b63_5 A_kfb_Arrays_fill0_b63_5 s.2 z) := RP_whl (I := fun q : Int × mR => fr F_kfb_Arrays_fill0_b63_5 A_kfb_Arrays_fill0_b63_5 s.2 q.2) (fun q hq => RP_w (u_kfb_Arrays_fill0_b63_5 v1 v3 q) (sl_w (fun z hz => (fr_s hz hq rfl rfl)) (fun z hz => (fr_s hz hq rfl rfl)))) fr_0
theorem u_kf_Arrays_fill0_b63 (v1 : Int) (m : mR) : RP (kf_Arrays_fill0_b63 v1 m) (fun z : Int × mR => fr kF_Arrays_fill0_b63 kA_Arrays_fill0_b63 m z.2) := by
  unfold kf_Arrays_fill0_b63
  refine RP_bnd (uw_kfb_Arrays_fill0_b63_5 v1 12 (0, m)) (fun e4 h1 => ?_)
  have h2 : fr kF_Arrays_fill0_b63 kA_Arrays_fill0_b63 m e4 := (fr_s h1 fr_0 rfl rfl)
  exact RP_some h2
def kF_Arrays_fill0_b64 : List Nat := []
def kA_Arrays_fill0_b64 : List Nat := [64]
def F_kfb_Arrays_fill0_b64_5 : List Nat := []
def A_kfb_Arrays_fill0_b64_5 : List Nat := [64]
theorem u_kfb_Arrays_fill0_b64_5 (v1 : Int) (v3 : Int) (s : Int × mR) : RP (kfb_Arrays_fill0_b64_5 v1 v3 s) (sel (fun z : (Int × mR) => fr F_kfb_Arrays_fill0_b64_5 A_kfb_Arrays_fill0_b64_5 s.2 z.2) (fun z : mR => fr F_kfb_Arrays_fill0_b64_5 A_kfb_Arrays_fill0_b64_5 s.2 z)) := by
  unfold kfb_Arrays_fill0_b64_5
  refine RP_ite (fun h1 => ?_) (fun h1 => ?_)
  · skip
    exact RP_some fr_0
  · skip
    exact RP_some (fr_m fr_0 rfl rfl)
theorem uw_kfb_Arrays_fill0_b64_5 (v1 : Int) (v3 : Int) (s : Int × mR) : RP (whl (kfb_Arrays_fill0_b64_5 v1 v3) s) (fun z : mR => fr F_kfb_Arrays_fill0_b64_5 A_kfb_Arrays_fill0_b64_5 s.2 z) := RP_whl (I := fun q : Int × mR => fr F_kfb_Arrays_fill0_b64_5 A_kfb_Arrays_fill0_b64_5 s.2 q.2) (fun q hq => RP_w (u_kfb_Arrays_fill0_b64_5 v1 v3 q) (sl_w (fun z hz => (fr_s hz hq rfl rfl)) (fun z hz => (fr_s hz hq rfl rfl)))) fr_0
theorem u_kf_Arrays_fill0_b64 (v1 : Int) (m : mR) : RP (kf_Arrays_fill0_b64 v1 m) (fun z : Int × mR => fr kF_Arrays_fill0_b64 kA_Arrays_fill0_b64 m z.2) := by
  unfold kf_Arrays_fill0_b64
  refine RP_bnd (uw_kfb_Arrays_fill0_b64_5 v1 12 (0, m)) (fun e4 h1 => ?_)
  have h2 : fr kF_Arrays_fill0_b64 kA_Arrays_fill0_b64 m e4 := (fr_s h1 fr_0 rfl rfl)
  exact RP_some h2
def kF_Arrays_fill0_b65 : List Nat := []
def kA_Arrays_fill0_b65 : List Nat := [65]
def F_kfb_Arrays_fill0_b65_5 : List Nat := []
def A_kfb_Arrays_fill0_b65_5 : List Nat := [65]
theorem u_kfb_Arrays_fill0_b65_5 (v1 : Int) (v3 : Int) (s : Int × mR) : RP (kfb_Arrays_fill0_b65_5 v1 v3 s) (sel (fun z : (Int × mR) => fr F_kfb_Arrays_fill0_b65_5 A_kfb_Arrays_fill0_b65_5 s.2 z.2) (fun z : mR => fr F_kfb_Arrays_fill0_b65_5 A_kfb_Arrays_fill0_b65_5 s.2 z)) := by
  unfold kfb_Arrays_fill0_b65_5
  refine RP_ite (fun h1 => ?_) (fun h1 => ?_)
  · skip
    exact RP_some fr_0
  · skip
    exact RP_some (fr_m fr_0 rfl rfl)
theorem uw_kfb_Arrays_fill0_b65_5 (v1 : Int) (v3 : Int) (s : Int × mR) : RP (whl (kfb_Arrays_fill0_b65_5 v1 v3) s) (fun z : mR => fr F_kfb_Arrays_fill0_b65_5 A_kfb_Arrays_fill0_b65_5 s.2 z) := RP_whl (I := fun q : Int × mR => fr F_kfb_Arrays_fill0_b65_5 A_kfb_Arrays_fill0_b65_5 s.2 q.2) (fun q hq => RP_w (u_kfb_Arrays_fill0_b65_5 v1 v3 q) (sl_w (fun z hz => (fr_s hz hq rfl rfl)) (fun z hz => (fr_s hz hq rfl rfl)))) fr_0
theorem u_kf_Arrays_fill0_b65 (v1 : Int) (m : mR) : RP (kf_Arrays_fill0_b65 v1 m) (fun z : Int × mR => fr kF_Arrays_fill0_b65 kA_Arrays_fill0_b65 m z.2) := by
  unfold kf_Arrays_fill0_b65
  refine RP_bnd (uw_kfb_Arrays_fill0_b65_5 v1 12 (0, m)) (fun e4 h1 => ?_)
  have h2 : fr kF_Arrays_fill0_b65 kA_Arrays_fill0_b65 m e4 := (fr_s h1 fr_0 rfl rfl)
  exact RP_some h2
def kF_sp_mark_b60 : List Nat := []
def kA_sp_mark_b60 : List Nat := [60]
theorem u_kf_sp_mark_b60 (v2 : Int) (v3 : Int) (m : mR) : RP (kf_sp_mark_b60 v2 v3 m) (fun z : Int × mR => fr kF_sp_mark_b60 kA_sp_mark_b60 m z.2) := by
  unfold kf_sp_mark_b60
  exact RP_some (fr_m fr_0 rfl rfl)
def kF_sp_gatherExpr : List Nat := []
def kA_sp_gatherExpr : List Nat := [60]
def F_kfl_sp_gatherExpr_79 : List Nat := []
def A_kfl_sp_gatherExpr_79 : List Nat := []
theorem u_kfl_sp_gatherExpr_79 (v2 : Int) (v4 : Int) (v5 : Int) (m : mR) : RP (kfl_sp_gatherExpr_79 v2 v4 v5 m) (sel (fun z : (Int × mR) => fr F_kfl_sp_gatherExpr_79 A_kfl_sp_gatherExpr_79 m z.2) (fun z : mR => fr F_kfl_sp_gatherExpr_79 A_kfl_sp_gatherExpr_79 m z)) := by
  unfold kfl_sp_gatherExpr_79
  exact RP_some fr_0
def F_kfl_sp_gatherExpr_76 : List Nat := []
def A_kfl_sp_gatherExpr_76 : List Nat := [60]
theorem u_kfl_sp_gatherExpr_76 (v2 : Int) (v4 : Int) (v5 : Int) (u2 : Int) (u3 : Int) (m : mR) : RP (kfl_sp_gatherExpr_76 v2 v4 v5 u2 u3 m) (sel (fun z : (Int × mR) => fr F_kfl_sp_gatherExpr_76 A_kfl_sp_gatherExpr_76 m z.2) (fun z : mR => fr F_kfl_sp_gatherExpr_76 A_kfl_sp_gatherExpr_76 m z)) := by
  unfold kfl_sp_gatherExpr_76
  refine RP_bnd (u_kf_sp_mark_b60 u2 u3 m) (fun y2 h1 => ?_)
  have h2 : fr F_kfl_sp_gatherExpr_76 A_kfl_sp_gatherExpr_76 m y2.2 := (fr_s h1 fr_0 rfl rfl)
  exact RP_w (u_kfl_sp_gatherExpr_79 v2 v4 v5 y2.2) (sl_w (fun z hz => (fr_s hz h2 rfl rfl)) (fun z hz => (fr_s hz h2 rfl rfl)))
def F_kfb_sp_gatherExpr_3 : List Nat := []
def A_kfb_sp_gatherExpr_3 : List Nat := [60]
theorem u_kfb_sp_gatherExpr_3 (v2 : Int) (v4 : Int) (s : Int × mR) : RP (kfb_sp_gatherExpr_3 v2 v4 s) (sel (fun z : (Int × mR) => fr F_kfb_sp_gatherExpr_3 A_kfb_sp_gatherExpr_3 s.2 z.2) (fun z : mR => fr F_kfb_sp_gatherExpr_3 A_kfb_sp_gatherExpr_3 s.2 z)) := by
  unfold kfb_sp_gatherExpr_3
  refine RP_ite (fun h1 => ?_) (fun h1 => ?_)
  · skip
    exact RP_some fr_0
  · skip
    refine RP_ite (fun h2 => ?_) (fun h2 => ?_)
    · skip
      exact RP_some fr_0
    · skip
      refine RP_ite (fun h3 => ?_) (fun h3 => ?_)
      · skip
        refine RP_bnd (u_kf_sp_mark_b60 v2 ((s.2.2 19) s.1) s.2) (fun y9 h4 => ?_)
        have h5 : fr F_kfb_sp_gatherExpr_3 A_kfb_sp_gatherExpr_3 s.2 y9.2 := (fr_s h4 fr_0 rfl rfl)
        refine RP_ite (fun h6 => ?_) (fun h6 => ?_)
        · skip
          exact RP_w (u_kfl_sp_gatherExpr_76 v2 v4 s.1 v2 ((s.2.2 19) s.1) y9.2) (sl_w (fun z hz => (fr_s hz h5 rfl rfl)) (fun z hz => (fr_s hz h5 rfl rfl)))
        · skip
          exact RP_w (u_kfl_sp_gatherExpr_76 v2 v4 s.1 v2 (cut (((s.2.2 19) s.1) - (((s.2.2 19) s.1).tmod 17))) y9.2) (sl_w (fun z hz => (fr_s hz h5 rfl rfl)) (fun z hz => (fr_s hz h5 rfl rfl)))
      · skip
        exact RP_w (u_kfl_sp_gatherExpr_79 v2 v4 s.1 s.2) (sl_w (fun z hz => (fr_s hz fr_0 rfl rfl)) (fun z hz => (fr_s hz fr_0 rfl rfl)))
theorem uw_kfb_sp_gatherExpr_3 (v2 : Int) (v4 : Int) (s : Int × mR) : RP (whl (kfb_sp_gatherExpr_3 v2 v4) s) (fun z : mR => fr F_kfb_sp_gatherExpr_3 A_kfb_sp_gatherExpr_3 s.2 z) := RP_whl (I := fun q : Int × mR => fr F_kfb_sp_gatherExpr_3 A_kfb_sp_gatherExpr_3 s.2 q.2) (fun q hq => RP_w (u_kfb_sp_gatherExpr_3 v2 v4 q) (sl_w (fun z hz => (fr_s hz hq rfl rfl)) (fun z hz => (fr_s hz hq rfl rfl)))) fr_0
theorem u_kf_sp_gatherExpr (v2 : Int) (v3 : Int) (v4 : Int) (m : mR) : RP (kf_sp_gatherExpr v2 v3 v4 m) (fun z : Int × mR => fr kF_sp_gatherExpr kA_sp_gatherExpr m z.2) := by
  unfold kf_sp_gatherExpr
  refine RP_bnd (uw_kfb_sp_gatherExpr_3 v2 v4 (v3, m)) (fun e13 h1 => ?_)
  have h2 : fr kF_sp_gatherExpr kA_sp_gatherExpr m e13 := (fr_s h1 fr_0 rfl rfl)
  exact RP_some h2
def kF_sp_mark_b61 : List Nat := []
def kA_sp_mark_b61 : List Nat := [61]
theorem u_kf_sp_mark_b61 (v2 : Int) (v3 : Int) (m : mR) : RP (kf_sp_mark_b61 v2 v3 m) (fun z : Int × mR => fr kF_sp_mark_b61 kA_sp_mark_b61 m z.2) := by
  unfold kf_sp_mark_b61
  exact RP_some (fr_m fr_0 rfl rfl)
def kF_sp_gatherDeed : List Nat := []
def kA_sp_gatherDeed : List Nat := [60, 61, 62]
def F_kfl_sp_gatherDeed_172 : List Nat := []
def A_kfl_sp_gatherDeed_172 : List Nat := [60]
theorem u_kfl_sp_gatherDeed_172 (v2 : Int) (v5 : Int) (v6 : Int) (m : mR) : RP (kfl_sp_gatherDeed_172 v2 v5 v6 m) (fun z : Int × mR => fr F_kfl_sp_gatherDeed_172 A_kfl_sp_gatherDeed_172 m z.2) := by
  unfold kfl_sp_gatherDeed_172
  refine RP_ite (fun h1 => ?_) (fun h1 => ?_)
  · skip
    refine RP_ite (fun h2 => ?_) (fun h2 => ?_)
    · skip
      exact RP_some fr_0
    · skip
      refine RP_bnd (u_kf_sp_mark_b60 v2 (cut (v5 - (v5.tmod 17))) m) (fun y4 h3 => ?_)
      have h4 : fr F_kfl_sp_gatherDeed_172 A_kfl_sp_gatherDeed_172 m y4.2 := (fr_s h3 fr_0 rfl rfl)
      exact RP_some h4
  · skip
    exact RP_some fr_0
def F_kfb_sp_gatherDeed_145 : List Nat := []
def A_kfb_sp_gatherDeed_145 : List Nat := [61]
theorem u_kfb_sp_gatherDeed_145 (v2 : Int) (v5 : Int) (v6 : Int) (s : Int × mR) : RP (kfb_sp_gatherDeed_145 v2 v5 v6 s) (sel (fun z : (Int × mR) => fr F_kfb_sp_gatherDeed_145 A_kfb_sp_gatherDeed_145 s.2 z.2) (fun z : mR => fr F_kfb_sp_gatherDeed_145 A_kfb_sp_gatherDeed_145 s.2 z)) := by
  unfold kfb_sp_gatherDeed_145
  refine RP_ite (fun h1 => ?_) (fun h1 => ?_)
  · skip
    exact RP_some fr_0
  · skip
    refine RP_bnd (u_kf_sp_mark_b61 v2 (cut (v5 + s.1)) s.2) (fun y9 h2 => ?_)
    have h3 : fr F_kfb_sp_gatherDeed_145 A_kfb_sp_gatherDeed_145 s.2 y9.2 := (fr_s h2 fr_0 rfl rfl)
    exact RP_some h3
theorem uw_kfb_sp_gatherDeed_145 (v2 : Int) (v5 : Int) (v6 : Int) (s : Int × mR) : RP (whl (kfb_sp_gatherDeed_145 v2 v5 v6) s) (fun z : mR => fr F_kfb_sp_gatherDeed_145 A_kfb_sp_gatherDeed_145 s.2 z) := RP_whl (I := fun q : Int × mR => fr F_kfb_sp_gatherDeed_145 A_kfb_sp_gatherDeed_145 s.2 q.2) (fun q hq => RP_w (u_kfb_sp_gatherDeed_145 v2 v5 v6 q) (sl_w (fun z hz => (fr_s hz hq rfl rfl)) (fun z hz => (fr_s hz hq rfl rfl)))) fr_0
def F_kfl_sp_gatherDeed_140 : List Nat := []
def A_kfl_sp_gatherDeed_140 : List Nat := [60, 61]
theorem u_kfl_sp_gatherDeed_140 (v2 : Int) (v5 : Int) (u0 : Int) (m : mR) : RP (kfl_sp_gatherDeed_140 v2 v5 u0 m) (fun z : Int × mR => fr F_kfl_sp_gatherDeed_140 A_kfl_sp_gatherDeed_140 m z.2) := by
  unfold kfl_sp_gatherDeed_140
  refine RP_bnd (uw_kfb_sp_gatherDeed_145 v2 v5 u0 (1, m)) (fun e12 h1 => ?_)
  have h2 : fr F_kfl_sp_gatherDeed_140 A_kfl_sp_gatherDeed_140 m e12 := (fr_s h1 fr_0 rfl rfl)
  exact RP_w (u_kfl_sp_gatherDeed_172 v2 v5 u0 e12) (fun z hz => (fr_s hz h2 rfl rfl))
def F_kfl_sp_gatherDeed_134 : List Nat := []
def A_kfl_sp_gatherDeed_134 : List Nat := [60, 61]
theorem u_kfl_sp_gatherDeed_134 (v2 : Int) (v5 : Int) (m : mR) : RP (kfl_sp_gatherDeed_134 v2 v5 m) (fun z : Int × mR => fr F_kfl_sp_gatherDeed_134 A_kfl_sp_gatherDeed_134 m z.2) := by
  unfold kfl_sp_gatherDeed_134
  exact RP_w (u_kfl_sp_gatherDeed_140 v2 v5 16 m) (fun z hz => (fr_s hz fr_0 rfl rfl))
def F_kfl_sp_gatherDeed_81 : List Nat := []
def A_kfl_sp_gatherDeed_81 : List Nat := [60, 61]
theorem u_kfl_sp_gatherDeed_81 (v2 : Int) (v3 : Int) (m : mR) : RP (kfl_sp_gatherDeed_81 v2 v3 m) (fun z : Int × mR => fr F_kfl_sp_gatherDeed_81 A_kfl_sp_gatherDeed_81 m z.2) := by
  unfold kfl_sp_gatherDeed_81
  refine RP_ite (fun h1 => ?_) (fun h1 => ?_)
  · skip
    exact RP_some fr_0
  · skip
    refine RP_bnd (u_kf_sp_mark_b61 v2 ((m.2 46) v3) m) (fun y16 h2 => ?_)
    have h3 : fr F_kfl_sp_gatherDeed_81 A_kfl_sp_gatherDeed_81 m y16.2 := (fr_s h2 fr_0 rfl rfl)
    refine RP_ite (fun h4 => ?_) (fun h4 => ?_)
    · skip
      exact RP_w (u_kfl_sp_gatherDeed_134 v2 ((m.2 46) v3) y16.2) (fun z hz => (fr_s hz h3 rfl rfl))
    · skip
      refine RP_ite (fun h5 => ?_) (fun h5 => ?_)
      · skip
        exact RP_w (u_kfl_sp_gatherDeed_134 v2 ((m.2 46) v3) y16.2) (fun z hz => (fr_s hz h3 rfl rfl))
      · skip
        exact RP_w (u_kfl_sp_gatherDeed_140 v2 ((m.2 46) v3) 0 y16.2) (fun z hz => (fr_s hz h3 rfl rfl))
theorem u_kf_sp_gatherDeed (v2 : Int) (v3 : Int) (m : mR) : RP (kf_sp_gatherDeed v2 v3 m) (fun z : Int × mR => fr kF_sp_gatherDeed kA_sp_gatherDeed m z.2) := by
  unfold kf_sp_gatherDeed
  refine RP_bnd (u_kf_sp_gatherExpr v2 ((m.2 48) v3) ((m.2 49) v3) m) (fun y21 h1 => ?_)
  have h2 : fr kF_sp_gatherDeed kA_sp_gatherDeed m y21.2 := (fr_s h1 fr_0 rfl rfl)
  refine RP_bnd (u_kf_sp_gatherExpr v2 ((y21.2.2 50) v3) ((y21.2.2 51) v3) y21.2) (fun y24 h3 => ?_)
  have h4 : fr kF_sp_gatherDeed kA_sp_gatherDeed m y24.2 := (fr_s h3 h2 rfl rfl)
  refine RP_ite (fun h5 => ?_) (fun h5 => ?_)
  · skip
    exact RP_w (u_kfl_sp_gatherDeed_81 v2 v3 y24.2) (fun z hz => (fr_s hz h4 rfl rfl))
  · skip
    exact RP_w (u_kfl_sp_gatherDeed_81 v2 v3 (mO y24.2 [] [(62, upI (y24.2.2 62) v2 (or32 ((y24.2.2 62) v2) (shl32 1 ((y24.2.2 47) v3))))])) (fun z hz => (fr_s hz (fr_m h4 rfl rfl) rfl rfl))
def kF_sp_gatherAction : List Nat := []
def kA_sp_gatherAction : List Nat := [60, 61, 62]
def F_kfb_sp_gatherAction_9 : List Nat := []
def A_kfb_sp_gatherAction_9 : List Nat := [60, 61, 62]
theorem u_kfb_sp_gatherAction_9 (v2 : Int) (v3 : Int) (s : Int × mR) : RP (kfb_sp_gatherAction_9 v2 v3 s) (sel (fun z : (Int × mR) => fr F_kfb_sp_gatherAction_9 A_kfb_sp_gatherAction_9 s.2 z.2) (fun z : mR => fr F_kfb_sp_gatherAction_9 A_kfb_sp_gatherAction_9 s.2 z)) := by
  unfold kfb_sp_gatherAction_9
  refine RP_ite (fun h1 => ?_) (fun h1 => ?_)
  · skip
    exact RP_some fr_0
  · skip
    refine RP_bnd (u_kf_sp_gatherDeed v2 (cut (((s.2.2 43) v3) + s.1)) s.2) (fun y4 h2 => ?_)
    have h3 : fr F_kfb_sp_gatherAction_9 A_kfb_sp_gatherAction_9 s.2 y4.2 := (fr_s h2 fr_0 rfl rfl)
    exact RP_some h3
theorem uw_kfb_sp_gatherAction_9 (v2 : Int) (v3 : Int) (s : Int × mR) : RP (whl (kfb_sp_gatherAction_9 v2 v3) s) (fun z : mR => fr F_kfb_sp_gatherAction_9 A_kfb_sp_gatherAction_9 s.2 z) := RP_whl (I := fun q : Int × mR => fr F_kfb_sp_gatherAction_9 A_kfb_sp_gatherAction_9 s.2 q.2) (fun q hq => RP_w (u_kfb_sp_gatherAction_9 v2 v3 q) (sl_w (fun z hz => (fr_s hz hq rfl rfl)) (fun z hz => (fr_s hz hq rfl rfl)))) fr_0
theorem u_kf_sp_gatherAction (v2 : Int) (v3 : Int) (m : mR) : RP (kf_sp_gatherAction v2 v3 m) (fun z : Int × mR => fr kF_sp_gatherAction kA_sp_gatherAction m z.2) := by
  unfold kf_sp_gatherAction
  refine RP_bnd (uw_kfb_sp_gatherAction_9 v2 v3 (0, m)) (fun e7 h1 => ?_)
  have h2 : fr kF_sp_gatherAction kA_sp_gatherAction m e7 := (fr_s h1 fr_0 rfl rfl)
  exact RP_some h2
def kF_sp_gather : List Nat := []
def kA_sp_gather : List Nat := [60, 61, 62]
def F_kfl_sp_gather_184 : List Nat := []
def A_kfl_sp_gather_184 : List Nat := [60, 61, 62]
theorem u_kfl_sp_gather_184 (v2 : Int) (v3 : Int) (m : mR) : RP (kfl_sp_gather_184 v2 v3 m) (fun z : Int × mR => fr F_kfl_sp_gather_184 A_kfl_sp_gather_184 m z.2) := by
  unfold kfl_sp_gather_184
  refine RP_bnd (u_kf_sp_gatherAction v2 ((m.2 74) v3) m) (fun y4 h1 => ?_)
  have h2 : fr F_kfl_sp_gather_184 A_kfl_sp_gather_184 m y4.2 := (fr_s h1 fr_0 rfl rfl)
  exact RP_some h2
def F_kfb_sp_gather_156 : List Nat := []
def A_kfb_sp_gather_156 : List Nat := [60, 61, 62]
theorem u_kfb_sp_gather_156 (v2 : Int) (v3 : Int) (s : Int × mR) : RP (kfb_sp_gather_156 v2 v3 s) (sel (fun z : (Int × mR) => fr F_kfb_sp_gather_156 A_kfb_sp_gather_156 s.2 z.2) (fun z : mR => fr F_kfb_sp_gather_156 A_kfb_sp_gather_156 s.2 z)) := by
  unfold kfb_sp_gather_156
  refine RP_ite (fun h1 => ?_) (fun h1 => ?_)
  · skip
    exact RP_some fr_0
  · skip
    refine RP_bnd (u_kf_sp_gatherAction v2 ((s.2.2 83) (65536 * v3 + s.1)) s.2) (fun y9 h2 => ?_)
    have h3 : fr F_kfb_sp_gather_156 A_kfb_sp_gather_156 s.2 y9.2 := (fr_s h2 fr_0 rfl rfl)
    exact RP_some h3
theorem uw_kfb_sp_gather_156 (v2 : Int) (v3 : Int) (s : Int × mR) : RP (whl (kfb_sp_gather_156 v2 v3) s) (fun z : mR => fr F_kfb_sp_gather_156 A_kfb_sp_gather_156 s.2 z) := RP_whl (I := fun q : Int × mR => fr F_kfb_sp_gather_156 A_kfb_sp_gather_156 s.2 q.2) (fun q hq => RP_w (u_kfb_sp_gather_156 v2 v3 q) (sl_w (fun z hz => (fr_s hz hq rfl rfl)) (fun z hz => (fr_s hz hq rfl rfl)))) fr_0
def F_kfl_sp_gather_153 : List Nat := []
def A_kfl_sp_gather_153 : List Nat := [60, 61, 62]
theorem u_kfl_sp_gather_153 (v2 : Int) (v3 : Int) (m : mR) : RP (kfl_sp_gather_153 v2 v3 m) (fun z : Int × mR => fr F_kfl_sp_gather_153 A_kfl_sp_gather_153 m z.2) := by
  unfold kfl_sp_gather_153
  refine RP_bnd (uw_kfb_sp_gather_156 v2 v3 (0, m)) (fun e12 h1 => ?_)
  have h2 : fr F_kfl_sp_gather_153 A_kfl_sp_gather_153 m e12 := (fr_s h1 fr_0 rfl rfl)
  exact RP_w (u_kfl_sp_gather_184 v2 v3 e12) (fun z hz => (fr_s hz h2 rfl rfl))
def F_kfb_sp_gather_115 : List Nat := []
def A_kfb_sp_gather_115 : List Nat := [60]
theorem u_kfb_sp_gather_115 (v2 : Int) (v3 : Int) (s : Int × mR) : RP (kfb_sp_gather_115 v2 v3 s) (sel (fun z : (Int × mR) => fr F_kfb_sp_gather_115 A_kfb_sp_gather_115 s.2 z.2) (fun z : mR => fr F_kfb_sp_gather_115 A_kfb_sp_gather_115 s.2 z)) := by
  unfold kfb_sp_gather_115
  refine RP_ite (fun h1 => ?_) (fun h1 => ?_)
  · skip
    exact RP_some fr_0
  · skip
    refine RP_bnd (u_kf_sp_gatherExpr v2 ((s.2.2 79) (65536 * v3 + s.1)) ((s.2.2 80) (65536 * v3 + s.1)) s.2) (fun y17 h2 => ?_)
    have h3 : fr F_kfb_sp_gather_115 A_kfb_sp_gather_115 s.2 y17.2 := (fr_s h2 fr_0 rfl rfl)
    exact RP_some h3
theorem uw_kfb_sp_gather_115 (v2 : Int) (v3 : Int) (s : Int × mR) : RP (whl (kfb_sp_gather_115 v2 v3) s) (fun z : mR => fr F_kfb_sp_gather_115 A_kfb_sp_gather_115 s.2 z) := RP_whl (I := fun q : Int × mR => fr F_kfb_sp_gather_115 A_kfb_sp_gather_115 s.2 q.2) (fun q hq => RP_w (u_kfb_sp_gather_115 v2 v3 q) (sl_w (fun z hz => (fr_s hz hq rfl rfl)) (fun z hz => (fr_s hz hq rfl rfl)))) fr_0
def F_kfl_sp_gather_35 : List Nat := []
def A_kfl_sp_gather_35 : List Nat := [60, 61, 62]
theorem u_kfl_sp_gather_35 (v2 : Int) (m : mR) : RP (kfl_sp_gather_35 v2 m) (fun z : Int × mR => fr F_kfl_sp_gather_35 A_kfl_sp_gather_35 m z.2) := by
  unfold kfl_sp_gather_35
  refine RP_ite (fun h1 => ?_) (fun h1 => ?_)
  · skip
    refine RP_bnd (u_kf_sp_gatherExpr v2 ((m.2 57) v2) ((m.2 58) v2) (mO m [] [(62, upI (m.2 62) v2 0)])) (fun y29 h2 => ?_)
    have h3 : fr F_kfl_sp_gather_35 A_kfl_sp_gather_35 m y29.2 := (fr_s h2 (fr_m fr_0 rfl rfl) rfl rfl)
    exact RP_some h3
  · skip
    refine RP_ite (fun h4 => ?_) (fun h4 => ?_)
    · skip
      refine RP_bnd (u_kf_sp_gatherDeed v2 ((m.2 56) v2) (mO m [] [(62, upI (m.2 62) v2 0)])) (fun y26 h5 => ?_)
      have h6 : fr F_kfl_sp_gather_35 A_kfl_sp_gather_35 m y26.2 := (fr_s h5 (fr_m fr_0 rfl rfl) rfl rfl)
      exact RP_some h6
    · skip
      refine RP_bnd (uw_kfb_sp_gather_115 v2 ((m.2 55) v2) (0, (mO m [] [(62, upI (m.2 62) v2 0)]))) (fun e23 h7 => ?_)
      have h8 : fr F_kfl_sp_gather_35 A_kfl_sp_gather_35 m e23 := (fr_s h7 (fr_m fr_0 rfl rfl) rfl rfl)
      exact RP_w (u_kfl_sp_gather_153 v2 ((m.2 55) v2) e23) (fun z hz => (fr_s hz h8 rfl rfl))
def F_kfb_sp_gather_2 : List Nat := []
def A_kfb_sp_gather_2 : List Nat := [60, 61]
theorem u_kfb_sp_gather_2 (v2 : Int) (s : Int × mR) : RP (kfb_sp_gather_2 v2 s) (sel (fun z : (Int × mR) => fr F_kfb_sp_gather_2 A_kfb_sp_gather_2 s.2 z.2) (fun z : mR => fr F_kfb_sp_gather_2 A_kfb_sp_gather_2 s.2 z)) := by
  unfold kfb_sp_gather_2
  refine RP_ite (fun h1 => ?_) (fun h1 => ?_)
  · skip
    exact RP_some fr_0
  · skip
    exact RP_some (fr_m fr_0 rfl rfl)
theorem uw_kfb_sp_gather_2 (v2 : Int) (s : Int × mR) : RP (whl (kfb_sp_gather_2 v2) s) (fun z : mR => fr F_kfb_sp_gather_2 A_kfb_sp_gather_2 s.2 z) := RP_whl (I := fun q : Int × mR => fr F_kfb_sp_gather_2 A_kfb_sp_gather_2 s.2 q.2) (fun q hq => RP_w (u_kfb_sp_gather_2 v2 q) (sl_w (fun z hz => (fr_s hz hq rfl rfl)) (fun z hz => (fr_s hz hq rfl rfl)))) fr_0
theorem u_kf_sp_gather (v2 : Int) (m : mR) : RP (kf_sp_gather v2 m) (fun z : Int × mR => fr kF_sp_gather kA_sp_gather m z.2) := by
  unfold kf_sp_gather
  refine RP_bnd (uw_kfb_sp_gather_2 v2 (0, m)) (fun e34 h1 => ?_)
  have h2 : fr kF_sp_gather kA_sp_gather m e34 := (fr_s h1 fr_0 rfl rfl)
  exact RP_w (u_kfl_sp_gather_35 v2 e34) (fun z hz => (fr_s hz h2 rfl rfl))
def kF_sp_settle : List Nat := [226]
def kA_sp_settle : List Nat := [59, 60, 61, 62, 63, 64, 65]
def F_kfl_sp_settle_199 : List Nat := [226]
def A_kfl_sp_settle_199 : List Nat := []
theorem u_kfl_sp_settle_199 (v5 : Int) (m : mR) : RP (kfl_sp_settle_199 v5 m) (fun z : Int × mR => fr F_kfl_sp_settle_199 A_kfl_sp_settle_199 m z.2) := by
  unfold kfl_sp_settle_199
  exact RP_some (fr_m fr_0 rfl rfl)
def F_kfl_sp_settle_109 : List Nat := []
def A_kfl_sp_settle_109 : List Nat := [59, 63, 64, 65]
theorem u_kfl_sp_settle_109 (v2 : Int) (v3 : Int) (v4 : Int) (v5 : Int) (v6 : Int) (v8 : Int) (u0 : Int) (m : mR) : RP (kfl_sp_settle_109 v2 v3 v4 v5 v6 v8 u0 m) (sel (fun z : (Int × Int × mR) => fr F_kfl_sp_settle_109 A_kfl_sp_settle_109 m z.2.2) (sel (fun z : (Int × mR) => fr F_kfl_sp_settle_109 A_kfl_sp_settle_109 m z.2) (fun z : Int × mR => fr F_kfl_sp_settle_109 A_kfl_sp_settle_109 m z.2))) := by
  unfold kfl_sp_settle_109
  refine RP_bndT (fun y5 => ?_)
  refine RP_ite (fun h1 => ?_) (fun h1 => ?_)
  · skip
    exact RP_some fr_0
  · skip
    refine RP_bndT (fun y9 => ?_)
    exact RP_some (fr_m fr_0 rfl rfl)
def F_kfl_sp_settle_93 : List Nat := []
def A_kfl_sp_settle_93 : List Nat := [59, 63, 64, 65]
theorem u_kfl_sp_settle_93 (v2 : Int) (v3 : Int) (v4 : Int) (v5 : Int) (v6 : Int) (v7 : Int) (u0 : Int) (m : mR) : RP (kfl_sp_settle_93 v2 v3 v4 v5 v6 v7 u0 m) (sel (fun z : (Int × Int × mR) => fr F_kfl_sp_settle_93 A_kfl_sp_settle_93 m z.2.2) (sel (fun z : (Int × mR) => fr F_kfl_sp_settle_93 A_kfl_sp_settle_93 m z.2) (fun z : Int × mR => fr F_kfl_sp_settle_93 A_kfl_sp_settle_93 m z.2))) := by
  unfold kfl_sp_settle_93
  refine RP_ite (fun h1 => ?_) (fun h1 => ?_)
  · skip
    exact RP_w (u_kfl_sp_settle_109 v2 v3 v4 v5 v6 u0 0 m) (sl_w (fun z hz => (fr_s hz fr_0 rfl rfl)) (sl_w (fun z hz => (fr_s hz fr_0 rfl rfl)) (fun z hz => (fr_s hz fr_0 rfl rfl))))
  · skip
    refine RP_bndT (fun y13 => ?_)
    exact RP_w (u_kfl_sp_settle_109 v2 v3 v4 v5 v6 u0 y13 m) (sl_w (fun z hz => (fr_s hz fr_0 rfl rfl)) (sl_w (fun z hz => (fr_s hz fr_0 rfl rfl)) (fun z hz => (fr_s hz fr_0 rfl rfl))))
def F_kfl_sp_settle_73 : List Nat := []
def A_kfl_sp_settle_73 : List Nat := [59, 63, 64, 65]
theorem u_kfl_sp_settle_73 (v2 : Int) (v3 : Int) (v4 : Int) (v5 : Int) (v6 : Int) (u0 : Int) (m : mR) : RP (kfl_sp_settle_73 v2 v3 v4 v5 v6 u0 m) (sel (fun z : (Int × Int × mR) => fr F_kfl_sp_settle_73 A_kfl_sp_settle_73 m z.2.2) (sel (fun z : (Int × mR) => fr F_kfl_sp_settle_73 A_kfl_sp_settle_73 m z.2) (fun z : Int × mR => fr F_kfl_sp_settle_73 A_kfl_sp_settle_73 m z.2))) := by
  unfold kfl_sp_settle_73
  refine RP_ite (fun h1 => ?_) (fun h1 => ?_)
  · skip
    exact RP_w (u_kfl_sp_settle_93 v2 v3 v4 v5 v6 (-1) 0 m) (sl_w (fun z hz => (fr_s hz fr_0 rfl rfl)) (sl_w (fun z hz => (fr_s hz fr_0 rfl rfl)) (fun z hz => (fr_s hz fr_0 rfl rfl))))
  · skip
    refine RP_bndT (fun y17 => ?_)
    exact RP_w (u_kfl_sp_settle_93 v2 v3 v4 v5 v6 u0 y17 m) (sl_w (fun z hz => (fr_s hz fr_0 rfl rfl)) (sl_w (fun z hz => (fr_s hz fr_0 rfl rfl)) (fun z hz => (fr_s hz fr_0 rfl rfl))))
def F_kfb_sp_settle_30 : List Nat := []
def A_kfb_sp_settle_30 : List Nat := [59, 60, 61, 62, 63, 64, 65]
theorem u_kfb_sp_settle_30 (v2 : Int) (v3 : Int) (v4 : Int) (s : Int × Int × mR) : RP (kfb_sp_settle_30 v2 v3 v4 s) (sel (fun z : (Int × Int × mR) => fr F_kfb_sp_settle_30 A_kfb_sp_settle_30 s.2.2 z.2.2) (sel (fun z : (Int × mR) => fr F_kfb_sp_settle_30 A_kfb_sp_settle_30 s.2.2 z.2) (fun z : Int × mR => fr F_kfb_sp_settle_30 A_kfb_sp_settle_30 s.2.2 z.2))) := by
  unfold kfb_sp_settle_30
  refine RP_ite (fun h1 => ?_) (fun h1 => ?_)
  · skip
    exact RP_some fr_0
  · skip
    refine RP_bnd (u_kf_sp_gather s.2.1 s.2.2) (fun y25 h2 => ?_)
    have h3 : fr F_kfb_sp_settle_30 A_kfb_sp_settle_30 s.2.2 y25.2 := (fr_s h2 fr_0 rfl rfl)
    refine RP_ite (fun h4 => ?_) (fun h4 => ?_)
    · skip
      exact RP_w (u_kfl_sp_settle_73 v2 v3 v4 s.1 s.2.1 (-1) y25.2) (sl_w (fun z hz => (fr_s hz h3 rfl rfl)) (sl_w (fun z hz => (fr_s hz h3 rfl rfl)) (fun z hz => (fr_s hz h3 rfl rfl))))
    · skip
      exact RP_w (u_kfl_sp_settle_73 v2 v3 v4 s.1 s.2.1 ((y25.2.2 55) s.2.1) y25.2) (sl_w (fun z hz => (fr_s hz h3 rfl rfl)) (sl_w (fun z hz => (fr_s hz h3 rfl rfl)) (fun z hz => (fr_s hz h3 rfl rfl))))
theorem uw_kfb_sp_settle_30 (v2 : Int) (v3 : Int) (v4 : Int) (s : Int × Int × mR) : RP (whl (kfb_sp_settle_30 v2 v3 v4) s) (sel (fun z : ((Int × mR)) => fr F_kfb_sp_settle_30 A_kfb_sp_settle_30 s.2.2 z.2) (fun z : Int × mR => fr F_kfb_sp_settle_30 A_kfb_sp_settle_30 s.2.2 z.2)) := RP_whl (I := fun q : Int × Int × mR => fr F_kfb_sp_settle_30 A_kfb_sp_settle_30 s.2.2 q.2.2) (fun q hq => RP_w (u_kfb_sp_settle_30 v2 v3 v4 q) (sl_w (fun z hz => (fr_s hz hq rfl rfl)) (sl_w (fun z hz => (fr_s hz hq rfl rfl)) (fun z hz => (fr_s hz hq rfl rfl))))) fr_0
theorem u_kf_sp_settle (v2 : Int) (v3 : Int) (v4 : Int) (m : mR) : RP (kf_sp_settle v2 v3 v4 m) (fun z : Int × mR => fr kF_sp_settle kA_sp_settle m z.2) := by
  unfold kf_sp_settle
  refine RP_bnd (u_kf_Arrays_fill0_b63 0 m) (fun y30 h1 => ?_)
  have h2 : fr kF_sp_settle kA_sp_settle m y30.2 := (fr_s h1 fr_0 rfl rfl)
  refine RP_bnd (u_kf_Arrays_fill0_b64 0 y30.2) (fun y33 h3 => ?_)
  have h4 : fr kF_sp_settle kA_sp_settle m y33.2 := (fr_s h3 h2 rfl rfl)
  refine RP_bnd (u_kf_Arrays_fill0_b65 0 y33.2) (fun y36 h5 => ?_)
  have h6 : fr kF_sp_settle kA_sp_settle m y36.2 := (fr_s h5 h4 rfl rfl)
  refine RP_bnd (uw_kfb_sp_settle_30 v2 v3 v4 (1, 0, y36.2)) (RP_sl (fun e39 h7 => ?_) (fun e43 h9 => ?_))
  · skip
    have h8 : fr kF_sp_settle kA_sp_settle m e39.2 := (fr_s h7 h6 rfl rfl)
    exact RP_some h8
  · skip
    have h10 : fr kF_sp_settle kA_sp_settle m e43.2 := (fr_s h9 h6 rfl rfl)
    exact RP_w (u_kfl_sp_settle_199 e43.1 e43.2) (fun z hz => (fr_s hz h10 rfl rfl))
def kF_pw_lay : List Nat := [202, 226]
def kA_pw_lay : List Nat := [59, 60, 61, 62, 63, 64, 65]
def F_kfl_pw_lay_49 : List Nat := []
def A_kfl_pw_lay_49 : List Nat := []
theorem u_kfl_pw_lay_49 (m : mR) : RP (kfl_pw_lay_49 m) (fun z : Int × Int × mR => fr F_kfl_pw_lay_49 A_kfl_pw_lay_49 m z.2.2) := by
  unfold kfl_pw_lay_49
  exact RP_some fr_0
def F_kfl_pw_lay_20 : List Nat := []
def A_kfl_pw_lay_20 : List Nat := []
theorem u_kfl_pw_lay_20 (m : mR) : RP (kfl_pw_lay_20 m) (fun z : Int × Int × mR => fr F_kfl_pw_lay_20 A_kfl_pw_lay_20 m z.2.2) := by
  unfold kfl_pw_lay_20
  exact RP_some fr_0
theorem u_kf_pw_lay (v1 : Int) (v2 : Int) (v3 : Int) (m : mR) : RP (kf_pw_lay v1 v2 v3 m) (fun z : Int × Int × mR => fr kF_pw_lay kA_pw_lay m z.2.2) := by
  unfold kf_pw_lay
  refine RP_ite (fun h1 => ?_) (fun h1 => ?_)
  · skip
    exact RP_w (u_kfl_pw_lay_20 m) (fun z hz => (fr_s hz fr_0 rfl rfl))
  · skip
    refine RP_ite (fun h2 => ?_) (fun h2 => ?_)
    · skip
      refine RP_ite (fun h3 => ?_) (fun h3 => ?_)
      · skip
        exact RP_w (u_kfl_pw_lay_49 m) (fun z hz => (fr_s hz fr_0 rfl rfl))
      · skip
        refine RP_ite (fun h4 => ?_) (fun h4 => ?_)
        · skip
          exact RP_w (u_kfl_pw_lay_49 m) (fun z hz => (fr_s hz fr_0 rfl rfl))
        · skip
          refine RP_ite (fun h5 => ?_) (fun h5 => ?_)
          · skip
            exact RP_w (u_kfl_pw_lay_49 m) (fun z hz => (fr_s hz fr_0 rfl rfl))
          · skip
            refine RP_ite (fun h6 => ?_) (fun h6 => ?_)
            · skip
              refine RP_bnd (u_kf_sp_settle v1 v2 v3 m) (fun y7 h7 => ?_)
              have h8 : fr kF_pw_lay kA_pw_lay m y7.2 := (fr_s h7 fr_0 rfl rfl)
              refine RP_ite (fun h9 => ?_) (fun h9 => ?_)
              · skip
                exact RP_some (fr_m h8 rfl rfl)
              · skip
                exact RP_some (fr_m h8 rfl rfl)
            · skip
              exact RP_w (u_kfl_pw_lay_49 m) (fun z hz => (fr_s hz fr_0 rfl rfl))
    · skip
      exact RP_w (u_kfl_pw_lay_20 m) (fun z hz => (fr_s hz fr_0 rfl rfl))
