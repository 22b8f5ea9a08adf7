def rF_doFirst : List Nat := [149, 150, 176, 177]
def rA_doFirst : List Nat := [138, 139, 140, 141, 142, 143, 144, 153, 154, 155, 156, 157, 158, 159, 160, 161, 162, 163, 164, 165, 166, 167, 168, 169, 170, 171, 172, 173, 174, 175, 178]
def F_rfl_doFirst_249 : List Nat := []
def A_rfl_doFirst_249 : List Nat := []
theorem u_rfl_doFirst_249 (v3 : Int) (m : mR) : RP (rfl_doFirst_249 v3 m) (sel (fun z : (Int × mR) => fr F_rfl_doFirst_249 A_rfl_doFirst_249 m z.2) (fun z : mR => fr F_rfl_doFirst_249 A_rfl_doFirst_249 m z)) := by
  unfold rfl_doFirst_249
  exact RP_some fr_0
def F_rfb_doFirst_236 : List Nat := []
def A_rfb_doFirst_236 : List Nat := [153, 154, 155, 156, 157, 158, 159, 160, 161, 162]
theorem u_rfb_doFirst_236 (s : Int × mR) : RP (rfb_doFirst_236 s) (sel (fun z : (Int × mR) => fr F_rfb_doFirst_236 A_rfb_doFirst_236 s.2 z.2) (fun z : mR => fr F_rfb_doFirst_236 A_rfb_doFirst_236 s.2 z)) := by
  unfold rfb_doFirst_236
  refine RP_ite (fun h1 => ?_) (fun h1 => ?_)
  · skip
    exact RP_some fr_0
  · skip
    refine RP_bnd (u_rf_moveDown s.1 s.2) (fun y5 h2 => ?_)
    have h3 : fr F_rfb_doFirst_236 A_rfb_doFirst_236 s.2 y5.2 := (fr_s h2 fr_0 rfl rfl)
    exact RP_w (u_rfl_doFirst_249 s.1 y5.2) (sl_w (fun z hz => (fr_s hz h3 rfl rfl)) (fun z hz => (fr_s hz h3 rfl rfl)))
theorem uw_rfb_doFirst_236 (s : Int × mR) : RP (whl rfb_doFirst_236 s) (fun z : mR => fr F_rfb_doFirst_236 A_rfb_doFirst_236 s.2 z) := RP_whl (I := fun q : Int × mR => fr F_rfb_doFirst_236 A_rfb_doFirst_236 s.2 q.2) (fun q hq => RP_w (u_rfb_doFirst_236 q) (sl_w (fun z hz => (fr_s hz hq rfl rfl)) (fun z hz => (fr_s hz hq rfl rfl)))) fr_0
def F_rfl_doFirst_214 : List Nat := [149, 150]
def A_rfl_doFirst_214 : List Nat := [153, 154, 155, 156, 157, 158, 159, 160, 161, 162]
theorem u_rfl_doFirst_214 (m : mR) : RP (rfl_doFirst_214 m) (fun z : Int × mR => fr F_rfl_doFirst_214 A_rfl_doFirst_214 m z.2) := by
  unfold rfl_doFirst_214
  refine RP_bnd (uw_rfb_doFirst_236 (0, (mO m [(149, cut ((m.1 149) - 1)), (150, cut ((m.1 150) + 1))] []))) (fun e8 h1 => ?_)
  have h2 : fr F_rfl_doFirst_214 A_rfl_doFirst_214 m e8 := (fr_s h1 (fr_m fr_0 rfl rfl) rfl rfl)
  exact RP_some h2
def F_rfl_doFirst_197 : List Nat := [149, 150]
def A_rfl_doFirst_197 : List Nat := [153, 154, 155, 156, 157, 158, 159, 160, 161, 162, 164, 165, 166, 168]
theorem u_rfl_doFirst_197 (v1 : Int) (v3 : Int) (u1 : Int) (u2 : Int) (m : mR) : RP (rfl_doFirst_197 v1 v3 u1 u2 m) (fun z : Int × mR => fr F_rfl_doFirst_197 A_rfl_doFirst_197 m z.2) := by
  unfold rfl_doFirst_197
  refine RP_ite (fun h1 => ?_) (fun h1 => ?_)
  · skip
    exact RP_w (u_rfl_doFirst_214 (mO m [] [(164, upI (m.2 164) u1 u2)])) (fun z hz => (fr_s hz (fr_m fr_0 rfl rfl) rfl rfl))
  · skip
    refine RP_ite (fun h2 => ?_) (fun h2 => ?_)
    · skip
      refine RP_bnd (u_rf_writePacket v1 (mO m [] [(164, upI (m.2 164) u1 u2)])) (fun y13 h3 => ?_)
      have h4 : fr F_rfl_doFirst_197 A_rfl_doFirst_197 m y13.2 := (fr_s h3 (fr_m fr_0 rfl rfl) rfl rfl)
      exact RP_w (u_rfl_doFirst_214 y13.2) (fun z hz => (fr_s hz h4 rfl rfl))
    · skip
      exact RP_w (u_rfl_doFirst_214 (mO m [] [(164, upI (m.2 164) u1 u2)])) (fun z hz => (fr_s hz (fr_m fr_0 rfl rfl) rfl rfl))
def F_rfl_doFirst_172 : List Nat := [149, 150]
def A_rfl_doFirst_172 : List Nat := [153, 154, 155, 156, 157, 158, 159, 160, 161, 162, 164, 165, 166, 168]
theorem u_rfl_doFirst_172 (v1 : Int) (v3 : Int) (m : mR) : RP (rfl_doFirst_172 v1 v3 m) (fun z : Int × mR => fr F_rfl_doFirst_172 A_rfl_doFirst_172 m z.2) := by
  unfold rfl_doFirst_172
  refine RP_ite (fun h1 => ?_) (fun h1 => ?_)
  · skip
    exact RP_w (u_rfl_doFirst_197 v1 v3 v1 2 m) (fun z hz => (fr_s hz fr_0 rfl rfl))
  · skip
    refine RP_ite (fun h2 => ?_) (fun h2 => ?_)
    · skip
      exact RP_w (u_rfl_doFirst_197 v1 v3 v1 0 m) (fun z hz => (fr_s hz fr_0 rfl rfl))
    · skip
      exact RP_w (u_rfl_doFirst_197 v1 v3 v1 1 m) (fun z hz => (fr_s hz fr_0 rfl rfl))
def F_rfl_doFirst_162 : List Nat := [149, 150, 177]
def A_rfl_doFirst_162 : List Nat := [138, 153, 154, 155, 156, 157, 158, 159, 160, 161, 162, 164, 165, 166, 168, 169, 171, 172, 173, 174, 175, 178]
theorem u_rfl_doFirst_162 (v1 : Int) (u0 : Int) (m : mR) : RP (rfl_doFirst_162 v1 u0 m) (fun z : Int × mR => fr F_rfl_doFirst_162 A_rfl_doFirst_162 m z.2) := by
  unfold rfl_doFirst_162
  refine RP_ite (fun h1 => ?_) (fun h1 => ?_)
  · skip
    exact RP_w (u_rfl_doFirst_172 v1 u0 m) (fun z hz => (fr_s hz fr_0 rfl rfl))
  · skip
    refine RP_bnd (u_rf_goThrough v1 m) (fun y19 h2 => ?_)
    have h3 : fr F_rfl_doFirst_162 A_rfl_doFirst_162 m y19.2 := (fr_s h2 fr_0 rfl rfl)
    exact RP_w (u_rfl_doFirst_172 v1 u0 y19.2) (fun z hz => (fr_s hz h3 rfl rfl))
def F_rfl_doFirst_154 : List Nat := [149, 150]
def A_rfl_doFirst_154 : List Nat := [153, 154, 155, 156, 157, 158, 159, 160, 161, 162, 164]
theorem u_rfl_doFirst_154 (u1 : Int) (u2 : Int) (m : mR) : RP (rfl_doFirst_154 u1 u2 m) (fun z : Int × mR => fr F_rfl_doFirst_154 A_rfl_doFirst_154 m z.2) := by
  unfold rfl_doFirst_154
  exact RP_w (u_rfl_doFirst_214 (mO m [] [(164, upI (m.2 164) u1 u2)])) (fun z hz => (fr_s hz (fr_m fr_0 rfl rfl) rfl rfl))
def F_rfl_doFirst_137 : List Nat := [149, 150]
def A_rfl_doFirst_137 : List Nat := [153, 154, 155, 156, 157, 158, 159, 160, 161, 162, 164]
theorem u_rfl_doFirst_137 (v1 : Int) (u0 : Int) (m : mR) : RP (rfl_doFirst_137 v1 u0 m) (fun z : Int × mR => fr F_rfl_doFirst_137 A_rfl_doFirst_137 m z.2) := by
  unfold rfl_doFirst_137
  refine RP_ite (fun h1 => ?_) (fun h1 => ?_)
  · skip
    exact RP_w (u_rfl_doFirst_154 v1 1 m) (fun z hz => (fr_s hz fr_0 rfl rfl))
  · skip
    exact RP_w (u_rfl_doFirst_154 v1 0 m) (fun z hz => (fr_s hz fr_0 rfl rfl))
def F_rfl_doFirst_136 : List Nat := [149, 150]
def A_rfl_doFirst_136 : List Nat := [153, 154, 155, 156, 157, 158, 159, 160, 161, 162, 164]
theorem u_rfl_doFirst_136 (v1 : Int) (m : mR) : RP (rfl_doFirst_136 v1 m) (fun z : Int × mR => fr F_rfl_doFirst_136 A_rfl_doFirst_136 m z.2) := by
  unfold rfl_doFirst_136
  exact RP_w (u_rfl_doFirst_137 v1 0 m) (fun z hz => (fr_s hz fr_0 rfl rfl))
def F_rfl_doFirst_132 : List Nat := [149, 150]
def A_rfl_doFirst_132 : List Nat := [153, 154, 155, 156, 157, 158, 159, 160, 161, 162, 164]
theorem u_rfl_doFirst_132 (v1 : Int) (m : mR) : RP (rfl_doFirst_132 v1 m) (fun z : Int × mR => fr F_rfl_doFirst_132 A_rfl_doFirst_132 m z.2) := by
  unfold rfl_doFirst_132
  exact RP_w (u_rfl_doFirst_137 v1 1 m) (fun z hz => (fr_s hz fr_0 rfl rfl))
def F_rfl_doFirst_129 : List Nat := [149, 150]
def A_rfl_doFirst_129 : List Nat := [153, 154, 155, 156, 157, 158, 159, 160, 161, 162, 164]
theorem u_rfl_doFirst_129 (v1 : Int) (u0 : Int) (m : mR) : RP (rfl_doFirst_129 v1 u0 m) (fun z : Int × mR => fr F_rfl_doFirst_129 A_rfl_doFirst_129 m z.2) := by
  unfold rfl_doFirst_129
  refine RP_ite (fun h1 => ?_) (fun h1 => ?_)
  · skip
    exact RP_w (u_rfl_doFirst_136 v1 m) (fun z hz => (fr_s hz fr_0 rfl rfl))
  · skip
    exact RP_w (u_rfl_doFirst_132 v1 m) (fun z hz => (fr_s hz fr_0 rfl rfl))
def F_rfl_doFirst_118 : List Nat := [149, 150]
def A_rfl_doFirst_118 : List Nat := [153, 154, 155, 156, 157, 158, 159, 160, 161, 162, 164]
theorem u_rfl_doFirst_118 (v1 : Int) (u0 : Int) (m : mR) : RP (rfl_doFirst_118 v1 u0 m) (fun z : Int × mR => fr F_rfl_doFirst_118 A_rfl_doFirst_118 m z.2) := by
  unfold rfl_doFirst_118
  refine RP_ite (fun h1 => ?_) (fun h1 => ?_)
  · skip
    exact RP_w (u_rfl_doFirst_136 v1 m) (fun z hz => (fr_s hz fr_0 rfl rfl))
  · skip
    exact RP_w (u_rfl_doFirst_132 v1 m) (fun z hz => (fr_s hz fr_0 rfl rfl))
def F_rfl_doFirst_102 : List Nat := [149, 150]
def A_rfl_doFirst_102 : List Nat := [153, 154, 155, 156, 157, 158, 159, 160, 161, 162, 164]
theorem u_rfl_doFirst_102 (v1 : Int) (u0 : Int) (m : mR) : RP (rfl_doFirst_102 v1 u0 m) (fun z : Int × mR => fr F_rfl_doFirst_102 A_rfl_doFirst_102 m z.2) := by
  unfold rfl_doFirst_102
  refine RP_ite (fun h1 => ?_) (fun h1 => ?_)
  · skip
    exact RP_w (u_rfl_doFirst_136 v1 m) (fun z hz => (fr_s hz fr_0 rfl rfl))
  · skip
    exact RP_w (u_rfl_doFirst_132 v1 m) (fun z hz => (fr_s hz fr_0 rfl rfl))
def F_rfl_doFirst_73 : List Nat := [149, 150, 176, 177]
def A_rfl_doFirst_73 : List Nat := [138, 139, 140, 141, 142, 143, 144, 153, 154, 155, 156, 157, 158, 159, 160, 161, 162, 164, 165, 166, 168, 169, 170, 171, 172, 173, 174, 175, 178]
theorem u_rfl_doFirst_73 (v1 : Int) (v2 : Int) (m : mR) : RP (rfl_doFirst_73 v1 v2 m) (fun z : Int × mR => fr F_rfl_doFirst_73 A_rfl_doFirst_73 m z.2) := by
  unfold rfl_doFirst_73
  refine RP_ite (fun h1 => ?_) (fun h1 => ?_)
  · skip
    refine RP_bnd (u_rf_readPacket m) (fun y27 h2 => ?_)
    have h3 : fr F_rfl_doFirst_73 A_rfl_doFirst_73 m y27.2 := (fr_s h2 fr_0 rfl rfl)
    exact RP_w (u_rfl_doFirst_162 v1 y27.1 y27.2) (fun z hz => (fr_s hz h3 rfl rfl))
  · skip
    refine RP_bndT (fun y30 => ?_)
    refine RP_ite (fun h4 => ?_) (fun h4 => ?_)
    · skip
      exact RP_w (u_rfl_doFirst_136 v1 m) (fun z hz => (fr_s hz fr_0 rfl rfl))
    · skip
      refine RP_ite (fun h5 => ?_) (fun h5 => ?_)
      · skip
        refine RP_bnd (u_rf_entryComes ((m.2 156) 0) m) (fun y41 h6 => ?_)
        have h7 : fr F_rfl_doFirst_73 A_rfl_doFirst_73 m y41.2 := (fr_s h6 fr_0 rfl rfl)
        exact RP_w (u_rfl_doFirst_102 v1 y41.1 y41.2) (fun z hz => (fr_s hz h7 rfl rfl))
      · skip
        refine RP_ite (fun h8 => ?_) (fun h8 => ?_)
        · skip
          refine RP_bnd (u_rf_entryChanges ((m.2 156) 0) m) (fun y38 h9 => ?_)
          have h10 : fr F_rfl_doFirst_73 A_rfl_doFirst_73 m y38.2 := (fr_s h9 fr_0 rfl rfl)
          exact RP_w (u_rfl_doFirst_118 v1 y38.1 y38.2) (fun z hz => (fr_s hz h10 rfl rfl))
        · skip
          refine RP_bnd (u_rf_entryGoes ((m.2 156) 0) m) (fun y35 h11 => ?_)
          have h12 : fr F_rfl_doFirst_73 A_rfl_doFirst_73 m y35.2 := (fr_s h11 fr_0 rfl rfl)
          exact RP_w (u_rfl_doFirst_129 v1 y35.1 y35.2) (fun z hz => (fr_s hz h12 rfl rfl))
def F_rfb_doFirst_49 : List Nat := []
def A_rfb_doFirst_49 : List Nat := [169]
theorem u_rfb_doFirst_49 (v1 : Int) (v2 : Int) (s : Int × mR) : RP (rfb_doFirst_49 v1 v2 s) (sel (fun z : (Int × mR) => fr F_rfb_doFirst_49 A_rfb_doFirst_49 s.2 z.2) (fun z : mR => fr F_rfb_doFirst_49 A_rfb_doFirst_49 s.2 z)) := by
  unfold rfb_doFirst_49
  refine RP_ite (fun h1 => ?_) (fun h1 => ?_)
  · skip
    exact RP_some fr_0
  · skip
    exact RP_some (fr_m fr_0 rfl rfl)
theorem uw_rfb_doFirst_49 (v1 : Int) (v2 : Int) (s : Int × mR) : RP (whl (rfb_doFirst_49 v1 v2) s) (fun z : mR => fr F_rfb_doFirst_49 A_rfb_doFirst_49 s.2 z) := RP_whl (I := fun q : Int × mR => fr F_rfb_doFirst_49 A_rfb_doFirst_49 s.2 q.2) (fun q hq => RP_w (u_rfb_doFirst_49 v1 v2 q) (sl_w (fun z hz => (fr_s hz hq rfl rfl)) (fun z hz => (fr_s hz hq rfl rfl)))) fr_0
theorem u_rf_doFirst (m : mR) : RP (rf_doFirst m) (fun z : Int × mR => fr rF_doFirst rA_doFirst m z.2) := by
  unfold rf_doFirst
  refine RP_bnd (uw_rfb_doFirst_49 ((m.1 150).tmod 128) ((m.2 153) 0) (0, (mO m [] [(163, upI (m.2 163) ((m.1 150).tmod 128) ((m.2 153) 0)), (165, upI (m.2 165) ((m.1 150).tmod 128) (-1)), (166, upI (m.2 166) ((m.1 150).tmod 128) (-1)), (167, upI (m.2 167) ((m.1 150).tmod 128) (m.1 152))]))) (fun e46 h1 => ?_)
  have h2 : fr rF_doFirst rA_doFirst m e46 := (fr_s h1 (fr_m fr_0 rfl rfl) rfl rfl)
  exact RP_w (u_rfl_doFirst_73 ((m.1 150).tmod 128) ((m.2 153) 0) e46) (fun z hz => (fr_s hz h2 rfl rfl))
def rF_run : List Nat := [1, 149, 150, 151, 152, 176, 177]
def rA_run : List Nat := [138, 139, 140, 141, 142, 143, 144, 153, 154, 155, 156, 157, 158, 159, 160, 161, 162, 163, 164, 165, 166, 167, 168, 169, 170, 171, 172, 173, 174, 175, 178]
def F_rfl_run_124 : List Nat := []
def A_rfl_run_124 : List Nat := []
theorem u_rfl_run_124 (v2 : Int) (m : mR) : RP (rfl_run_124 v2 m) (fun z : Int × mR => fr F_rfl_run_124 A_rfl_run_124 m z.2) := by
  unfold rfl_run_124
  exact RP_some fr_0
def F_rfl_run_108 : List Nat := [152]
def A_rfl_run_108 : List Nat := []
theorem u_rfl_run_108 (v1 : Int) (v2 : Int) (v3 : Int) (m : mR) : RP (rfl_run_108 v1 v2 v3 m) (sel (fun z : (Int × mR) => fr F_rfl_run_108 A_rfl_run_108 m z.2) (fun z : mR => fr F_rfl_run_108 A_rfl_run_108 m z)) := by
  unfold rfl_run_108
  exact RP_some (fr_m fr_0 rfl rfl)
def F_rfl_run_97 : List Nat := [149, 150, 152, 176, 177]
def A_rfl_run_97 : List Nat := [138, 139, 140, 141, 142, 143, 144, 153, 154, 155, 156, 157, 158, 159, 160, 161, 162, 163, 164, 165, 166, 167, 168, 169, 170, 171, 172, 173, 174, 175, 178]
theorem u_rfl_run_97 (v1 : Int) (v2 : Int) (v3 : Int) (m : mR) : RP (rfl_run_97 v1 v2 v3 m) (sel (fun z : (Int × mR) => fr F_rfl_run_97 A_rfl_run_97 m z.2) (fun z : mR => fr F_rfl_run_97 A_rfl_run_97 m z)) := by
  unfold rfl_run_97
  refine RP_ite (fun h1 => ?_) (fun h1 => ?_)
  · skip
    exact RP_w (u_rfl_run_108 v1 v2 v3 m) (sl_w (fun z hz => (fr_s hz fr_0 rfl rfl)) (fun z hz => (fr_s hz fr_0 rfl rfl)))
  · skip
    refine RP_bnd (u_rf_doFirst m) (fun y3 h2 => ?_)
    have h3 : fr F_rfl_run_97 A_rfl_run_97 m y3.2 := (fr_s h2 fr_0 rfl rfl)
    exact RP_w (u_rfl_run_108 v1 v2 v3 y3.2) (sl_w (fun z hz => (fr_s hz h3 rfl rfl)) (fun z hz => (fr_s hz h3 rfl rfl)))
def F_rfb_run_46 : List Nat := [149, 150, 151, 152, 176, 177]
def A_rfb_run_46 : List Nat := [138, 139, 140, 141, 142, 143, 144, 153, 154, 155, 156, 157, 158, 159, 160, 161, 162, 163, 164, 165, 166, 167, 168, 169, 170, 171, 172, 173, 174, 175, 178]
theorem u_rfb_run_46 (v1 : Int) (v2 : Int) (s : Int × mR) : RP (rfb_run_46 v1 v2 s) (sel (fun z : (Int × mR) => fr F_rfb_run_46 A_rfb_run_46 s.2 z.2) (fun z : mR => fr F_rfb_run_46 A_rfb_run_46 s.2 z)) := by
  unfold rfb_run_46
  refine RP_ite (fun h1 => ?_) (fun h1 => ?_)
  · skip
    exact RP_some fr_0
  · skip
    refine RP_ite (fun h2 => ?_) (fun h2 => ?_)
    · skip
      exact RP_w (u_rfl_run_97 v1 v2 s.1 s.2) (sl_w (fun z hz => (fr_s hz fr_0 rfl rfl)) (fun z hz => (fr_s hz fr_0 rfl rfl)))
    · skip
      refine RP_ite (fun h3 => ?_) (fun h3 => ?_)
      · skip
        exact RP_w (u_rfl_run_97 v1 v2 s.1 (mO s.2 [(151, cut ((s.2.1 151) + 1))] [])) (sl_w (fun z hz => (fr_s hz (fr_m fr_0 rfl rfl) rfl rfl)) (fun z hz => (fr_s hz (fr_m fr_0 rfl rfl) rfl rfl)))
      · skip
        exact RP_w (u_rfl_run_97 v1 v2 s.1 s.2) (sl_w (fun z hz => (fr_s hz fr_0 rfl rfl)) (fun z hz => (fr_s hz fr_0 rfl rfl)))
theorem uw_rfb_run_46 (v1 : Int) (v2 : Int) (s : Int × mR) : RP (whl (rfb_run_46 v1 v2) s) (fun z : mR => fr F_rfb_run_46 A_rfb_run_46 s.2 z) := RP_whl (I := fun q : Int × mR => fr F_rfb_run_46 A_rfb_run_46 s.2 q.2) (fun q hq => RP_w (u_rfb_run_46 v1 v2 q) (sl_w (fun z hz => (fr_s hz hq rfl rfl)) (fun z hz => (fr_s hz hq rfl rfl)))) fr_0
def F_rfl_run_27 : List Nat := [1, 149, 150, 151, 152, 176, 177]
def A_rfl_run_27 : List Nat := [138, 139, 140, 141, 142, 143, 144, 153, 154, 155, 156, 157, 158, 159, 160, 161, 162, 163, 164, 165, 166, 167, 168, 169, 170, 171, 172, 173, 174, 175, 178]
theorem u_rfl_run_27 (v1 : Int) (u1 : Int) (m : mR) : RP (rfl_run_27 v1 u1 m) (fun z : Int × mR => fr F_rfl_run_27 A_rfl_run_27 m z.2) := by
  unfold rfl_run_27
  refine RP_ite (fun h1 => ?_) (fun h1 => ?_)
  · skip
    refine RP_bnd (uw_rfb_run_46 v1 (m.1 151) (0, (mO m [(1, u1)] []))) (fun e11 h2 => ?_)
    have h3 : fr F_rfl_run_27 A_rfl_run_27 m e11 := (fr_s h2 (fr_m fr_0 rfl rfl) rfl rfl)
    exact RP_w (u_rfl_run_124 (m.1 151) e11) (fun z hz => (fr_s hz h3 rfl rfl))
  · skip
    exact RP_some (fr_m fr_0 rfl rfl)
def F_rfl_run_22 : List Nat := [1, 149, 150, 151, 152, 176, 177]
def A_rfl_run_22 : List Nat := [138, 139, 140, 141, 142, 143, 144, 153, 154, 155, 156, 157, 158, 159, 160, 161, 162, 163, 164, 165, 166, 167, 168, 169, 170, 171, 172, 173, 174, 175, 178]
theorem u_rfl_run_22 (v1 : Int) (m : mR) : RP (rfl_run_22 v1 m) (fun z : Int × mR => fr F_rfl_run_22 A_rfl_run_22 m z.2) := by
  unfold rfl_run_22
  exact RP_w (u_rfl_run_27 v1 2 m) (fun z hz => (fr_s hz fr_0 rfl rfl))
theorem u_rf_run (v1 : Int) (m : mR) : RP (rf_run v1 m) (fun z : Int × mR => fr rF_run rA_run m z.2) := by
  unfold rf_run
  refine RP_ite (fun h1 => ?_) (fun h1 => ?_)
  · skip
    exact RP_w (u_rfl_run_27 v1 1 m) (fun z hz => (fr_s hz fr_0 rfl rfl))
  · skip
    refine RP_ite (fun h2 => ?_) (fun h2 => ?_)
    · skip
      exact RP_w (u_rfl_run_22 v1 m) (fun z hz => (fr_s hz fr_0 rfl rfl))
    · skip
      refine RP_ite (fun h3 => ?_) (fun h3 => ?_)
      · skip
        exact RP_w (u_rfl_run_27 v1 0 m) (fun z hz => (fr_s hz fr_0 rfl rfl))
      · skip
        exact RP_w (u_rfl_run_22 v1 m) (fun z hz => (fr_s hz fr_0 rfl rfl))
def rF_out : List Nat := [1]
def rA_out : List Nat := []
theorem u_rf_out (v1 : Int) (v2 : Int) (m : mR) : RP (rf_out v1 v2 m) (fun z : Int × mR => fr rF_out rA_out m z.2) := by
  unfold rf_out
  refine RP_bndT (fun y1 => ?_)
  refine RP_ite (fun h1 => ?_) (fun h1 => ?_)
  · skip
    exact RP_some (fr_m fr_0 rfl rfl)
  · skip
    refine RP_ite (fun h2 => ?_) (fun h2 => ?_)
    · skip
      exact RP_some (fr_m fr_0 rfl rfl)
    · skip
      refine RP_ite (fun h3 => ?_) (fun h3 => ?_)
      · skip
        exact RP_some (fr_m fr_0 rfl rfl)
      · skip
        refine RP_ite (fun h4 => ?_) (fun h4 => ?_)
        · skip
          exact RP_some (fr_m fr_0 rfl rfl)
        · skip
          refine RP_ite (fun h5 => ?_) (fun h5 => ?_)
          · skip
            exact RP_some (fr_m fr_0 rfl rfl)
          · skip
            refine RP_ite (fun h6 => ?_) (fun h6 => ?_)
            · skip
              exact RP_some (fr_m fr_0 rfl rfl)
            · skip
              exact RP_some (fr_m fr_0 rfl rfl)
def rF_did : List Nat := [1]
def rA_did : List Nat := []
def F_rfl_did_56 : List Nat := []
def A_rfl_did_56 : List Nat := []
theorem u_rfl_did_56 (u0 : Int) (m : mR) : RP (rfl_did_56 u0 m) (fun z : Int × mR => fr F_rfl_did_56 A_rfl_did_56 m z.2) := by
  unfold rfl_did_56
  exact RP_some fr_0
theorem u_rf_did (v1 : Int) (v2 : Int) (m : mR) : RP (rf_did v1 v2 m) (fun z : Int × mR => fr rF_did rA_did m z.2) := by
  unfold rf_did
  refine RP_bndT (fun y1 => ?_)
  refine RP_ite (fun h1 => ?_) (fun h1 => ?_)
  · skip
    exact RP_w (u_rfl_did_56 (-1) (mO m [(1, 0)] [])) (fun z hz => (fr_s hz (fr_m fr_0 rfl rfl) rfl rfl))
  · skip
    refine RP_bndT (fun y4 => ?_)
    refine RP_ite (fun h2 => ?_) (fun h2 => ?_)
    · skip
      exact RP_w (u_rfl_did_56 (-1) (mO m [(1, 0)] [])) (fun z hz => (fr_s hz (fr_m fr_0 rfl rfl) rfl rfl))
    · skip
      refine RP_ite (fun h3 => ?_) (fun h3 => ?_)
      · skip
        exact RP_w (u_rfl_did_56 ((m.2 169) (cut ((cut (48 * (v1.tmod 128))) + v2))) (mO m [(1, 0)] [])) (fun z hz => (fr_s hz (fr_m fr_0 rfl rfl) rfl rfl))
      · skip
        exact RP_w (u_rfl_did_56 (-1) (mO m [(1, 0)] [])) (fun z hz => (fr_s hz (fr_m fr_0 rfl rfl) rfl rfl))
def rF_word : List Nat := [1]
def rA_word : List Nat := []
def F_rfl_word_74 : List Nat := []
def A_rfl_word_74 : List Nat := []
theorem u_rfl_word_74 (u0 : Int) (m : mR) : RP (rfl_word_74 u0 m) (fun z : Int × mR => fr F_rfl_word_74 A_rfl_word_74 m z.2) := by
  unfold rfl_word_74
  exact RP_some fr_0
def F_rfl_word_73 : List Nat := []
def A_rfl_word_73 : List Nat := []
theorem u_rfl_word_73 (m : mR) : RP (rfl_word_73 m) (fun z : Int × mR => fr F_rfl_word_73 A_rfl_word_73 m z.2) := by
  unfold rfl_word_73
  exact RP_w (u_rfl_word_74 0 m) (fun z hz => (fr_s hz fr_0 rfl rfl))
def F_rfl_word_17 : List Nat := [1]
def A_rfl_word_17 : List Nat := []
theorem u_rfl_word_17 (v1 : Int) (v2 : Int) (u1 : Int) (m : mR) : RP (rfl_word_17 v1 v2 u1 m) (fun z : Int × mR => fr F_rfl_word_17 A_rfl_word_17 m z.2) := by
  unfold rfl_word_17
  refine RP_ite (fun h1 => ?_) (fun h1 => ?_)
  · skip
    refine RP_ite (fun h2 => ?_) (fun h2 => ?_)
    · skip
      exact RP_w (u_rfl_word_73 (mO m [(1, u1)] [])) (fun z hz => (fr_s hz (fr_m fr_0 rfl rfl) rfl rfl))
    · skip
      refine RP_bndT (fun y3 => ?_)
      refine RP_ite (fun h3 => ?_) (fun h3 => ?_)
      · skip
        exact RP_w (u_rfl_word_73 (mO m [(1, u1)] [])) (fun z hz => (fr_s hz (fr_m fr_0 rfl rfl) rfl rfl))
      · skip
        refine RP_ite (fun h4 => ?_) (fun h4 => ?_)
        · skip
          exact RP_w (u_rfl_word_73 (mO m [(1, u1)] [])) (fun z hz => (fr_s hz (fr_m fr_0 rfl rfl) rfl rfl))
        · skip
          refine RP_ite (fun h5 => ?_) (fun h5 => ?_)
          · skip
            exact RP_w (u_rfl_word_73 (mO m [(1, u1)] [])) (fun z hz => (fr_s hz (fr_m fr_0 rfl rfl) rfl rfl))
          · skip
            exact RP_w (u_rfl_word_74 ((m.2 138) (cut ((cut (64 * v1)) + v2))) (mO m [(1, u1)] [])) (fun z hz => (fr_s hz (fr_m fr_0 rfl rfl) rfl rfl))
  · skip
    exact RP_w (u_rfl_word_73 (mO m [(1, u1)] [])) (fun z hz => (fr_s hz (fr_m fr_0 rfl rfl) rfl rfl))
theorem u_rf_word (v1 : Int) (v2 : Int) (m : mR) : RP (rf_word v1 v2 m) (fun z : Int × mR => fr rF_word rA_word m z.2) := by
  unfold rf_word
  refine RP_ite (fun h1 => ?_) (fun h1 => ?_)
  · skip
    exact RP_w (u_rfl_word_17 v1 v2 0 m) (fun z hz => (fr_s hz fr_0 rfl rfl))
  · skip
    exact RP_w (u_rfl_word_17 v1 v2 1 m) (fun z hz => (fr_s hz fr_0 rfl rfl))
def rF_entries : List Nat := [1]
def rA_entries : List Nat := [170]
def F_rfl_entries_76 : List Nat := []
def A_rfl_entries_76 : List Nat := []
theorem u_rfl_entries_76 (u0 : Int) (m : mR) : RP (rfl_entries_76 u0 m) (fun z : Int × mR => fr F_rfl_entries_76 A_rfl_entries_76 m z.2) := by
  unfold rfl_entries_76
  exact RP_some fr_0
def F_rfl_entries_17 : List Nat := [1]
def A_rfl_entries_17 : List Nat := [170]
theorem u_rfl_entries_17 (v1 : Int) (v2 : Int) (u1 : Int) (m : mR) : RP (rfl_entries_17 v1 v2 u1 m) (fun z : Int × mR => fr F_rfl_entries_17 A_rfl_entries_17 m z.2) := by
  unfold rfl_entries_17
  refine RP_ite (fun h1 => ?_) (fun h1 => ?_)
  · skip
    refine RP_ite (fun h2 => ?_) (fun h2 => ?_)
    · skip
      exact RP_some (fr_m fr_0 rfl rfl)
    · skip
      refine RP_bndT (fun y3 => ?_)
      refine RP_ite (fun h3 => ?_) (fun h3 => ?_)
      · skip
        exact RP_some (fr_m fr_0 rfl rfl)
      · skip
        refine RP_ite (fun h4 => ?_) (fun h4 => ?_)
        · skip
          exact RP_w (u_rfl_entries_76 ((m.2 139) v1) (mO m [(1, u1)] [])) (fun z hz => (fr_s hz (fr_m fr_0 rfl rfl) rfl rfl))
        · skip
          refine RP_ite (fun h5 => ?_) (fun h5 => ?_)
          · skip
            refine RP_bnd (u_rf_above v1 (mO m [(1, u1)] [])) (fun y8 h6 => ?_)
            have h7 : fr F_rfl_entries_17 A_rfl_entries_17 m y8.2 := (fr_s h6 (fr_m fr_0 rfl rfl) rfl rfl)
            exact RP_w (u_rfl_entries_76 y8.1 y8.2) (fun z hz => (fr_s hz h7 rfl rfl))
          · skip
            exact RP_w (u_rfl_entries_76 (-1) (mO m [(1, u1)] [])) (fun z hz => (fr_s hz (fr_m fr_0 rfl rfl) rfl rfl))
  · skip
    exact RP_some (fr_m fr_0 rfl rfl)
theorem u_rf_entries (v1 : Int) (v2 : Int) (m : mR) : RP (rf_entries v1 v2 m) (fun z : Int × mR => fr rF_entries rA_entries m z.2) := by
  unfold rf_entries
  refine RP_ite (fun h1 => ?_) (fun h1 => ?_)
  · skip
    exact RP_w (u_rfl_entries_17 v1 v2 0 m) (fun z hz => (fr_s hz fr_0 rfl rfl))
  · skip
    exact RP_w (u_rfl_entries_17 v1 v2 1 m) (fun z hz => (fr_s hz fr_0 rfl rfl))
def rF_byteAt2 : List Nat := [1]
def rA_byteAt2 : List Nat := []
def F_rfl_byteAt2_51 : List Nat := []
def A_rfl_byteAt2_51 : List Nat := []
theorem u_rfl_byteAt2_51 (u0 : Int) (m : mR) : RP (rfl_byteAt2_51 u0 m) (fun z : Int × mR => fr F_rfl_byteAt2_51 A_rfl_byteAt2_51 m z.2) := by
  unfold rfl_byteAt2_51
  exact RP_some fr_0
theorem u_rf_byteAt2 (v1 : Int) (v2 : Int) (m : mR) : RP (rf_byteAt2 v1 v2 m) (fun z : Int × mR => fr rF_byteAt2 rA_byteAt2 m z.2) := by
  unfold rf_byteAt2
  refine RP_bndT (fun y1 => ?_)
  refine RP_ite (fun h1 => ?_) (fun h1 => ?_)
  · skip
    exact RP_w (u_rfl_byteAt2_51 (-1) (mO m [(1, 0)] [])) (fun z hz => (fr_s hz (fr_m fr_0 rfl rfl) rfl rfl))
  · skip
    refine RP_ite (fun h2 => ?_) (fun h2 => ?_)
    · skip
      exact RP_w (u_rfl_byteAt2_51 (-1) (mO m [(1, 0)] [])) (fun z hz => (fr_s hz (fr_m fr_0 rfl rfl) rfl rfl))
    · skip
      refine RP_ite (fun h3 => ?_) (fun h3 => ?_)
      · skip
        exact RP_w (u_rfl_byteAt2_51 (-1) (mO m [(1, 0)] [])) (fun z hz => (fr_s hz (fr_m fr_0 rfl rfl) rfl rfl))
      · skip
        exact RP_w (u_rfl_byteAt2_51 ((m.2 168) (cut ((cut (896 * (v1.tmod 128))) + v2))) (mO m [(1, 0)] [])) (fun z hz => (fr_s hz (fr_m fr_0 rfl rfl) rfl rfl))
