def rF_comes : List Nat := [148, 149]
def rA_comes : List Nat := [153]
theorem u_rf_comes (v1 : Int) (m : mR) : RP (rf_comes v1 m) (fun z : Int × mR => fr rF_comes rA_comes m z.2) := by
  unfold rf_comes
  exact RP_some (fr_m fr_0 rfl rfl)
def rF_packet : List Nat := [1, 5, 148, 149]
def rA_packet : List Nat := [153, 154, 155, 159]
def F_rfl_packet_118 : List Nat := []
def A_rfl_packet_118 : List Nat := []
theorem u_rfl_packet_118 (u0 : Int) (m : mR) : RP (rfl_packet_118 u0 m) (fun z : Int × mR => fr F_rfl_packet_118 A_rfl_packet_118 m z.2) := by
  unfold rfl_packet_118
  exact RP_some fr_0
def F_rfl_packet_108 : List Nat := [5, 148, 149]
def A_rfl_packet_108 : List Nat := [153]
theorem u_rfl_packet_108 (m : mR) : RP (rfl_packet_108 m) (fun z : Int × mR => fr F_rfl_packet_108 A_rfl_packet_108 m z.2) := by
  unfold rfl_packet_108
  refine RP_bnd (u_rf_comes 0 (mO m [(5, 0)] [])) (fun y2 h1 => ?_)
  have h2 : fr F_rfl_packet_108 A_rfl_packet_108 m y2.2 := (fr_s h1 (fr_m fr_0 rfl rfl) rfl rfl)
  exact RP_w (u_rfl_packet_118 y2.1 y2.2) (fun z hz => (fr_s hz h2 rfl rfl))
def F_rfb_packet_73 : List Nat := []
def A_rfb_packet_73 : List Nat := [159]
theorem u_rfb_packet_73 (s : Int × mR) : RP (rfb_packet_73 s) (sel (fun z : (Int × mR) => fr F_rfb_packet_73 A_rfb_packet_73 s.2 z.2) (fun z : mR => fr F_rfb_packet_73 A_rfb_packet_73 s.2 z)) := by
  unfold rfb_packet_73
  refine RP_ite (fun h1 => ?_) (fun h1 => ?_)
  · skip
    exact RP_some fr_0
  · skip
    exact RP_some (fr_m fr_0 rfl rfl)
theorem uw_rfb_packet_73 (s : Int × mR) : RP (whl rfb_packet_73 s) (fun z : mR => fr F_rfb_packet_73 A_rfb_packet_73 s.2 z) := RP_whl (I := fun q : Int × mR => fr F_rfb_packet_73 A_rfb_packet_73 s.2 q.2) (fun q hq => RP_w (u_rfb_packet_73 q) (sl_w (fun z hz => (fr_s hz hq rfl rfl)) (fun z hz => (fr_s hz hq rfl rfl)))) fr_0
def F_rfl_packet_36 : List Nat := [1, 5, 148, 149]
def A_rfl_packet_36 : List Nat := [153, 154, 155, 159]
theorem u_rfl_packet_36 (v1 : Int) (u1 : Int) (m : mR) : RP (rfl_packet_36 v1 u1 m) (fun z : Int × mR => fr F_rfl_packet_36 A_rfl_packet_36 m z.2) := by
  unfold rfl_packet_36
  refine RP_ite (fun h1 => ?_) (fun h1 => ?_)
  · skip
    refine RP_bnd (uw_rfb_packet_73 (0, (mO m [(1, u1)] [(154, upI (m.2 154) (m.1 149) (m.1 5)), (155, upI (m.2 155) (m.1 149) v1)]))) (fun e8 h2 => ?_)
    have h3 : fr F_rfl_packet_36 A_rfl_packet_36 m e8 := (fr_s h2 (fr_m fr_0 rfl rfl) rfl rfl)
    exact RP_w (u_rfl_packet_108 e8) (fun z hz => (fr_s hz h3 rfl rfl))
  · skip
    exact RP_some (fr_m fr_0 rfl rfl)
def F_rfl_packet_17 : List Nat := [1, 5, 148, 149]
def A_rfl_packet_17 : List Nat := [153, 154, 155, 159]
theorem u_rfl_packet_17 (v1 : Int) (m : mR) : RP (rfl_packet_17 v1 m) (fun z : Int × mR => fr F_rfl_packet_17 A_rfl_packet_17 m z.2) := by
  unfold rfl_packet_17
  exact RP_w (u_rfl_packet_36 v1 1 m) (fun z hz => (fr_s hz fr_0 rfl rfl))
theorem u_rf_packet (v1 : Int) (m : mR) : RP (rf_packet v1 m) (fun z : Int × mR => fr rF_packet rA_packet m z.2) := by
  unfold rf_packet
  refine RP_ite (fun h1 => ?_) (fun h1 => ?_)
  · skip
    exact RP_w (u_rfl_packet_17 v1 m) (fun z hz => (fr_s hz fr_0 rfl rfl))
  · skip
    refine RP_ite (fun h2 => ?_) (fun h2 => ?_)
    · skip
      exact RP_w (u_rfl_packet_17 v1 m) (fun z hz => (fr_s hz fr_0 rfl rfl))
    · skip
      refine RP_ite (fun h3 => ?_) (fun h3 => ?_)
      · skip
        exact RP_w (u_rfl_packet_36 v1 0 m) (fun z hz => (fr_s hz fr_0 rfl rfl))
      · skip
        exact RP_w (u_rfl_packet_36 v1 2 m) (fun z hz => (fr_s hz fr_0 rfl rfl))
def rF_key : List Nat := [1]
def rA_key : List Nat := [145, 146]
def F_rfl_key_14 : List Nat := [1]
def A_rfl_key_14 : List Nat := [145, 146]
theorem u_rfl_key_14 (v1 : Int) (v2 : Int) (v4 : Int) (u1 : Int) (m : mR) : RP (rfl_key_14 v1 v2 v4 u1 m) (fun z : Int × mR => fr F_rfl_key_14 A_rfl_key_14 m z.2) := by
  unfold rfl_key_14
  refine RP_ite (fun h1 => ?_) (fun h1 => ?_)
  · skip
    exact RP_some (fr_m fr_0 rfl rfl)
  · skip
    exact RP_some (fr_m fr_0 rfl rfl)
theorem u_rf_key (v1 : Int) (v2 : Int) (v4 : Int) (m : mR) : RP (rf_key v1 v2 v4 m) (fun z : Int × mR => fr rF_key rA_key m z.2) := by
  unfold rf_key
  refine RP_bndT (fun y2 => ?_)
  refine RP_ite (fun h1 => ?_) (fun h1 => ?_)
  · skip
    exact RP_w (u_rfl_key_14 v1 v2 v4 1 m) (fun z hz => (fr_s hz fr_0 rfl rfl))
  · skip
    exact RP_w (u_rfl_key_14 v1 v2 v4 0 m) (fun z hz => (fr_s hz fr_0 rfl rfl))
def rF_datum : List Nat := [1]
def rA_datum : List Nat := [147]
def F_rfl_datum_14 : List Nat := [1]
def A_rfl_datum_14 : List Nat := [147]
theorem u_rfl_datum_14 (v1 : Int) (v2 : Int) (u1 : Int) (m : mR) : RP (rfl_datum_14 v1 v2 u1 m) (fun z : Int × mR => fr F_rfl_datum_14 A_rfl_datum_14 m z.2) := by
  unfold rfl_datum_14
  refine RP_ite (fun h1 => ?_) (fun h1 => ?_)
  · skip
    exact RP_some (fr_m fr_0 rfl rfl)
  · skip
    exact RP_some (fr_m fr_0 rfl rfl)
theorem u_rf_datum (v1 : Int) (v2 : Int) (m : mR) : RP (rf_datum v1 v2 m) (fun z : Int × mR => fr rF_datum rA_datum m z.2) := by
  unfold rf_datum
  refine RP_bndT (fun y2 => ?_)
  refine RP_ite (fun h1 => ?_) (fun h1 => ?_)
  · skip
    exact RP_w (u_rfl_datum_14 v1 v2 1 m) (fun z hz => (fr_s hz fr_0 rfl rfl))
  · skip
    exact RP_w (u_rfl_datum_14 v1 v2 0 m) (fun z hz => (fr_s hz fr_0 rfl rfl))
def rF_entry : List Nat := [1, 148, 149]
def rA_entry : List Nat := [153, 156, 157, 158, 160, 161, 162]
def F_rfl_entry_180 : List Nat := []
def A_rfl_entry_180 : List Nat := []
theorem u_rfl_entry_180 (u0 : Int) (m : mR) : RP (rfl_entry_180 u0 m) (fun z : Int × mR => fr F_rfl_entry_180 A_rfl_entry_180 m z.2) := by
  unfold rfl_entry_180
  exact RP_some fr_0
def F_rfl_entry_173 : List Nat := [148, 149]
def A_rfl_entry_173 : List Nat := [153]
theorem u_rfl_entry_173 (v1 : Int) (m : mR) : RP (rfl_entry_173 v1 m) (fun z : Int × mR => fr F_rfl_entry_173 A_rfl_entry_173 m z.2) := by
  unfold rfl_entry_173
  refine RP_bnd (u_rf_comes (cut (1 + v1)) m) (fun y2 h1 => ?_)
  have h2 : fr F_rfl_entry_173 A_rfl_entry_173 m y2.2 := (fr_s h1 fr_0 rfl rfl)
  exact RP_w (u_rfl_entry_180 y2.1 y2.2) (fun z hz => (fr_s hz h2 rfl rfl))
def F_rfb_entry_98 : List Nat := []
def A_rfb_entry_98 : List Nat := [160, 161, 162]
theorem u_rfb_entry_98 (v1 : Int) (s : Int × mR) : RP (rfb_entry_98 v1 s) (sel (fun z : (Int × mR) => fr F_rfb_entry_98 A_rfb_entry_98 s.2 z.2) (fun z : mR => fr F_rfb_entry_98 A_rfb_entry_98 s.2 z)) := by
  unfold rfb_entry_98
  refine RP_ite (fun h1 => ?_) (fun h1 => ?_)
  · skip
    exact RP_some fr_0
  · skip
    exact RP_some (fr_m fr_0 rfl rfl)
theorem uw_rfb_entry_98 (v1 : Int) (s : Int × mR) : RP (whl (rfb_entry_98 v1) s) (fun z : mR => fr F_rfb_entry_98 A_rfb_entry_98 s.2 z) := RP_whl (I := fun q : Int × mR => fr F_rfb_entry_98 A_rfb_entry_98 s.2 q.2) (fun q hq => RP_w (u_rfb_entry_98 v1 q) (sl_w (fun z hz => (fr_s hz hq rfl rfl)) (fun z hz => (fr_s hz hq rfl rfl)))) fr_0
def F_rfl_entry_52 : List Nat := [1, 148, 149]
def A_rfl_entry_52 : List Nat := [153, 156, 157, 158, 160, 161, 162]
theorem u_rfl_entry_52 (v1 : Int) (v2 : Int) (v3 : Int) (v4 : Int) (u1 : Int) (m : mR) : RP (rfl_entry_52 v1 v2 v3 v4 u1 m) (fun z : Int × mR => fr F_rfl_entry_52 A_rfl_entry_52 m z.2) := by
  unfold rfl_entry_52
  refine RP_ite (fun h1 => ?_) (fun h1 => ?_)
  · skip
    refine RP_bnd (uw_rfb_entry_98 v1 (0, (mO m [(1, u1)] [(156, upI (m.2 156) (m.1 149) v2), (157, upI (m.2 157) (m.1 149) v3), (158, upI (m.2 158) (m.1 149) v4)]))) (fun e8 h2 => ?_)
    have h3 : fr F_rfl_entry_52 A_rfl_entry_52 m e8 := (fr_s h2 (fr_m fr_0 rfl rfl) rfl rfl)
    exact RP_w (u_rfl_entry_173 v1 e8) (fun z hz => (fr_s hz h3 rfl rfl))
  · skip
    exact RP_some (fr_m fr_0 rfl rfl)
def F_rfl_entry_47 : List Nat := [1, 148, 149]
def A_rfl_entry_47 : List Nat := [153, 156, 157, 158, 160, 161, 162]
theorem u_rfl_entry_47 (v1 : Int) (v2 : Int) (v3 : Int) (v4 : Int) (m : mR) : RP (rfl_entry_47 v1 v2 v3 v4 m) (fun z : Int × mR => fr F_rfl_entry_47 A_rfl_entry_47 m z.2) := by
  unfold rfl_entry_47
  exact RP_w (u_rfl_entry_52 v1 v2 v3 v4 2 m) (fun z hz => (fr_s hz fr_0 rfl rfl))
def F_rfl_entry_27 : List Nat := [1, 148, 149]
def A_rfl_entry_27 : List Nat := [153, 156, 157, 158, 160, 161, 162]
theorem u_rfl_entry_27 (v1 : Int) (v2 : Int) (v3 : Int) (v4 : Int) (m : mR) : RP (rfl_entry_27 v1 v2 v3 v4 m) (fun z : Int × mR => fr F_rfl_entry_27 A_rfl_entry_27 m z.2) := by
  unfold rfl_entry_27
  exact RP_w (u_rfl_entry_52 v1 v2 v3 v4 1 m) (fun z hz => (fr_s hz fr_0 rfl rfl))
theorem u_rf_entry (v1 : Int) (v2 : Int) (v3 : Int) (v4 : Int) (m : mR) : RP (rf_entry v1 v2 v3 v4 m) (fun z : Int × mR => fr rF_entry rA_entry m z.2) := by
  unfold rf_entry
  refine RP_bndT (fun y11 => ?_)
  refine RP_ite (fun h1 => ?_) (fun h1 => ?_)
  · skip
    exact RP_w (u_rfl_entry_27 v1 v2 v3 v4 m) (fun z hz => (fr_s hz fr_0 rfl rfl))
  · skip
    refine RP_ite (fun h2 => ?_) (fun h2 => ?_)
    · skip
      exact RP_w (u_rfl_entry_27 v1 v2 v3 v4 m) (fun z hz => (fr_s hz fr_0 rfl rfl))
    · skip
      refine RP_bndT (fun y15 => ?_)
      refine RP_ite (fun h3 => ?_) (fun h3 => ?_)
      · skip
        exact RP_w (u_rfl_entry_27 v1 v2 v3 v4 m) (fun z hz => (fr_s hz fr_0 rfl rfl))
      · skip
        refine RP_ite (fun h4 => ?_) (fun h4 => ?_)
        · skip
          exact RP_w (u_rfl_entry_47 v1 v2 v3 v4 m) (fun z hz => (fr_s hz fr_0 rfl rfl))
        · skip
          refine RP_ite (fun h5 => ?_) (fun h5 => ?_)
          · skip
            exact RP_w (u_rfl_entry_47 v1 v2 v3 v4 m) (fun z hz => (fr_s hz fr_0 rfl rfl))
          · skip
            exact RP_w (u_rfl_entry_52 v1 v2 v3 v4 0 m) (fun z hz => (fr_s hz fr_0 rfl rfl))
def rF_putAction : List Nat := []
def rA_putAction : List Nat := [141, 144]
def F_rfl_putAction_79 : List Nat := []
def A_rfl_putAction_79 : List Nat := [144]
theorem u_rfl_putAction_79 (v1 : Int) (v2 : Int) (v3 : Int) (v4 : Int) (u1 : Int) (u2 : Int) (m : mR) : RP (rfl_putAction_79 v1 v2 v3 v4 u1 u2 m) (sel (fun z : (Int × mR) => fr F_rfl_putAction_79 A_rfl_putAction_79 m z.2) (fun z : mR => fr F_rfl_putAction_79 A_rfl_putAction_79 m z)) := by
  unfold rfl_putAction_79
  exact RP_some (fr_m fr_0 rfl rfl)
def F_rfb_putAction_22 : List Nat := []
def A_rfb_putAction_22 : List Nat := [144]
theorem u_rfb_putAction_22 (v1 : Int) (v2 : Int) (v3 : Int) (s : Int × mR) : RP (rfb_putAction_22 v1 v2 v3 s) (sel (fun z : (Int × mR) => fr F_rfb_putAction_22 A_rfb_putAction_22 s.2 z.2) (fun z : mR => fr F_rfb_putAction_22 A_rfb_putAction_22 s.2 z)) := by
  unfold rfb_putAction_22
  refine RP_ite (fun h1 => ?_) (fun h1 => ?_)
  · skip
    exact RP_some fr_0
  · skip
    refine RP_bndT (fun y4 => ?_)
    refine RP_ite (fun h2 => ?_) (fun h2 => ?_)
    · skip
      exact RP_w (u_rfl_putAction_79 v1 v2 v3 s.1 (cut ((cut (4 * y4)) + s.1)) 0 s.2) (sl_w (fun z hz => (fr_s hz fr_0 rfl rfl)) (fun z hz => (fr_s hz fr_0 rfl rfl)))
    · skip
      refine RP_bndT (fun y7 => ?_)
      exact RP_w (u_rfl_putAction_79 v1 v2 v3 s.1 (cut ((cut (4 * y4)) + s.1)) y7 s.2) (sl_w (fun z hz => (fr_s hz fr_0 rfl rfl)) (fun z hz => (fr_s hz fr_0 rfl rfl)))
theorem uw_rfb_putAction_22 (v1 : Int) (v2 : Int) (v3 : Int) (s : Int × mR) : RP (whl (rfb_putAction_22 v1 v2 v3) s) (fun z : mR => fr F_rfb_putAction_22 A_rfb_putAction_22 s.2 z) := RP_whl (I := fun q : Int × mR => fr F_rfb_putAction_22 A_rfb_putAction_22 s.2 q.2) (fun q hq => RP_w (u_rfb_putAction_22 v1 v2 v3 q) (sl_w (fun z hz => (fr_s hz hq rfl rfl)) (fun z hz => (fr_s hz hq rfl rfl)))) fr_0
theorem u_rf_putAction (v1 : Int) (v2 : Int) (m : mR) : RP (rf_putAction v1 v2 m) (fun z : Int × mR => fr rF_putAction rA_putAction m z.2) := by
  unfold rf_putAction
  refine RP_bndT (fun y9 => ?_)
  refine RP_bnd (uw_rfb_putAction_22 v1 v2 ((m.2 158) 0) (0, (mO m [] [(141, upI (m.2 141) y9 ((m.2 158) 0))]))) (fun e11 h1 => ?_)
  have h2 : fr rF_putAction rA_putAction m e11 := (fr_s h1 (fr_m fr_0 rfl rfl) rfl rfl)
  exact RP_some h2
def rF_above : List Nat := []
def rA_above : List Nat := [170]
def F_rfl_above_87 : List Nat := []
def A_rfl_above_87 : List Nat := []
theorem u_rfl_above_87 (v1 : Int) (v3 : Int) (u0 : Int) (u1 : Int) (m : mR) : RP (rfl_above_87 v1 v3 u0 u1 m) (sel (fun z : (Int × Int × mR) => fr F_rfl_above_87 A_rfl_above_87 m z.2.2) (fun z : Int × mR => fr F_rfl_above_87 A_rfl_above_87 m z.2)) := by
  unfold rfl_above_87
  exact RP_some fr_0
def F_rfb_above_36 : List Nat := []
def A_rfb_above_36 : List Nat := [170]
theorem u_rfb_above_36 (v1 : Int) (s : Int × Int × mR) : RP (rfb_above_36 v1 s) (sel (fun z : (Int × Int × mR) => fr F_rfb_above_36 A_rfb_above_36 s.2.2 z.2.2) (fun z : Int × mR => fr F_rfb_above_36 A_rfb_above_36 s.2.2 z.2)) := by
  unfold rfb_above_36
  refine RP_ite (fun h1 => ?_) (fun h1 => ?_)
  · skip
    exact RP_some fr_0
  · skip
    refine RP_bndT (fun y7 => ?_)
    refine RP_ite (fun h2 => ?_) (fun h2 => ?_)
    · skip
      exact RP_w (u_rfl_above_87 v1 s.2.1 s.1 0 (mO s.2.2 [] [(170, upI (s.2.2.2 170) y7 (cut (((s.2.2.2 170) y7) + 1)))])) (sl_w (fun z hz => (fr_s hz (fr_m fr_0 rfl rfl) rfl rfl)) (fun z hz => (fr_s hz (fr_m fr_0 rfl rfl) rfl rfl)))
    · skip
      exact RP_w (u_rfl_above_87 v1 s.2.1 s.1 1 (mO s.2.2 [] [(170, upI (s.2.2.2 170) y7 (cut (((s.2.2.2 170) y7) + 1)))])) (sl_w (fun z hz => (fr_s hz (fr_m fr_0 rfl rfl) rfl rfl)) (fun z hz => (fr_s hz (fr_m fr_0 rfl rfl) rfl rfl)))
theorem uw_rfb_above_36 (v1 : Int) (s : Int × Int × mR) : RP (whl (rfb_above_36 v1) s) (fun z : Int × mR => fr F_rfb_above_36 A_rfb_above_36 s.2.2 z.2) := RP_whl (I := fun q : Int × Int × mR => fr F_rfb_above_36 A_rfb_above_36 s.2.2 q.2.2) (fun q hq => RP_w (u_rfb_above_36 v1 q) (sl_w (fun z hz => (fr_s hz hq rfl rfl)) (fun z hz => (fr_s hz hq rfl rfl)))) fr_0
def F_rfl_above_32 : List Nat := []
def A_rfl_above_32 : List Nat := [170]
theorem u_rfl_above_32 (v1 : Int) (m : mR) : RP (rfl_above_32 v1 m) (fun z : Int × mR => fr F_rfl_above_32 A_rfl_above_32 m z.2) := by
  unfold rfl_above_32
  refine RP_bnd (uw_rfb_above_36 v1 (0, 0, m)) (fun e10 h1 => ?_)
  have h2 : fr F_rfl_above_32 A_rfl_above_32 m e10.2 := (fr_s h1 fr_0 rfl rfl)
  exact RP_some h2
def F_rfb_above_13 : List Nat := []
def A_rfb_above_13 : List Nat := [170]
theorem u_rfb_above_13 (v1 : Int) (s : Int × mR) : RP (rfb_above_13 v1 s) (sel (fun z : (Int × mR) => fr F_rfb_above_13 A_rfb_above_13 s.2 z.2) (fun z : mR => fr F_rfb_above_13 A_rfb_above_13 s.2 z)) := by
  unfold rfb_above_13
  refine RP_ite (fun h1 => ?_) (fun h1 => ?_)
  · skip
    exact RP_some fr_0
  · skip
    exact RP_some (fr_m fr_0 rfl rfl)
theorem uw_rfb_above_13 (v1 : Int) (s : Int × mR) : RP (whl (rfb_above_13 v1) s) (fun z : mR => fr F_rfb_above_13 A_rfb_above_13 s.2 z) := RP_whl (I := fun q : Int × mR => fr F_rfb_above_13 A_rfb_above_13 s.2 q.2) (fun q hq => RP_w (u_rfb_above_13 v1 q) (sl_w (fun z hz => (fr_s hz hq rfl rfl)) (fun z hz => (fr_s hz hq rfl rfl)))) fr_0
theorem u_rf_above (v1 : Int) (m : mR) : RP (rf_above v1 m) (fun z : Int × mR => fr rF_above rA_above m z.2) := by
  unfold rf_above
  refine RP_ite (fun h1 => ?_) (fun h1 => ?_)
  · skip
    exact RP_some fr_0
  · skip
    refine RP_bnd (uw_rfb_above_13 v1 (0, m)) (fun e17 h2 => ?_)
    have h3 : fr rF_above rA_above m e17 := (fr_s h2 fr_0 rfl rfl)
    exact RP_w (u_rfl_above_32 v1 e17) (fun z hz => (fr_s hz h3 rfl rfl))
def rF_entryComes : List Nat := []
def rA_entryComes : List Nat := [139, 140, 141, 142, 143, 144, 170]
def F_rfl_entryComes_179 : List Nat := []
def A_rfl_entryComes_179 : List Nat := [139]
theorem u_rfl_entryComes_179 (v1 : Int) (u0 : Int) (m : mR) : RP (rfl_entryComes_179 v1 u0 m) (fun z : Int × mR => fr F_rfl_entryComes_179 A_rfl_entryComes_179 m z.2) := by
  unfold rfl_entryComes_179
  refine RP_ite (fun h1 => ?_) (fun h1 => ?_)
  · skip
    exact RP_some (fr_m fr_0 rfl rfl)
  · skip
    exact RP_some fr_0
def F_rfl_entryComes_155 : List Nat := []
def A_rfl_entryComes_155 : List Nat := [139, 170]
theorem u_rfl_entryComes_155 (v1 : Int) (m : mR) : RP (rfl_entryComes_155 v1 m) (fun z : Int × mR => fr F_rfl_entryComes_155 A_rfl_entryComes_155 m z.2) := by
  unfold rfl_entryComes_155
  refine RP_ite (fun h1 => ?_) (fun h1 => ?_)
  · skip
    exact RP_some (fr_m fr_0 rfl rfl)
  · skip
    refine RP_bnd (u_rf_above v1 (mO m [] [(139, upI (m.2 139) v1 (cut (((m.2 139) v1) + 1)))])) (fun y4 h2 => ?_)
    have h3 : fr F_rfl_entryComes_155 A_rfl_entryComes_155 m y4.2 := (fr_s h2 (fr_m fr_0 rfl rfl) rfl rfl)
    exact RP_w (u_rfl_entryComes_179 v1 y4.1 y4.2) (fun z hz => (fr_s hz h3 rfl rfl))
def F_rfl_entryComes_132 : List Nat := []
def A_rfl_entryComes_132 : List Nat := [139, 140, 141, 144, 170]
theorem u_rfl_entryComes_132 (v1 : Int) (v2 : Int) (m : mR) : RP (rfl_entryComes_132 v1 v2 m) (fun z : Int × mR => fr F_rfl_entryComes_132 A_rfl_entryComes_132 m z.2) := by
  unfold rfl_entryComes_132
  refine RP_bndT (fun y7 => ?_)
  refine RP_bnd (u_rf_putAction v1 v2 (mO m [] [(140, upI (m.2 140) y7 ((m.2 157) 0))])) (fun y9 h1 => ?_)
  have h2 : fr F_rfl_entryComes_132 A_rfl_entryComes_132 m y9.2 := (fr_s h1 (fr_m fr_0 rfl rfl) rfl rfl)
  exact RP_w (u_rfl_entryComes_155 v1 y9.2) (fun z hz => (fr_s hz h2 rfl rfl))
def F_rfb_entryComes_57 : List Nat := []
def A_rfb_entryComes_57 : List Nat := [142, 143]
theorem u_rfb_entryComes_57 (v1 : Int) (v2 : Int) (s : Int × mR) : RP (rfb_entryComes_57 v1 v2 s) (sel (fun z : (Int × mR) => fr F_rfb_entryComes_57 A_rfb_entryComes_57 s.2 z.2) (fun z : mR => fr F_rfb_entryComes_57 A_rfb_entryComes_57 s.2 z)) := by
  unfold rfb_entryComes_57
  refine RP_ite (fun h1 => ?_) (fun h1 => ?_)
  · skip
    exact RP_some fr_0
  · skip
    refine RP_bndT (fun y14 => ?_)
    refine RP_bndT (fun y16 => ?_)
    exact RP_some (fr_m fr_0 rfl rfl)
theorem uw_rfb_entryComes_57 (v1 : Int) (v2 : Int) (s : Int × mR) : RP (whl (rfb_entryComes_57 v1 v2) s) (fun z : mR => fr F_rfb_entryComes_57 A_rfb_entryComes_57 s.2 z) := RP_whl (I := fun q : Int × mR => fr F_rfb_entryComes_57 A_rfb_entryComes_57 s.2 q.2) (fun q hq => RP_w (u_rfb_entryComes_57 v1 v2 q) (sl_w (fun z hz => (fr_s hz hq rfl rfl)) (fun z hz => (fr_s hz hq rfl rfl)))) fr_0
def F_rfl_entryComes_48 : List Nat := []
def A_rfl_entryComes_48 : List Nat := [139, 140, 141, 142, 143, 144, 170]
theorem u_rfl_entryComes_48 (v1 : Int) (m : mR) : RP (rfl_entryComes_48 v1 m) (fun z : Int × mR => fr F_rfl_entryComes_48 A_rfl_entryComes_48 m z.2) := by
  unfold rfl_entryComes_48
  refine RP_bnd (uw_rfb_entryComes_57 v1 ((m.2 139) v1) (0, m)) (fun e18 h1 => ?_)
  have h2 : fr F_rfl_entryComes_48 A_rfl_entryComes_48 m e18 := (fr_s h1 fr_0 rfl rfl)
  exact RP_w (u_rfl_entryComes_132 v1 ((m.2 139) v1) e18) (fun z hz => (fr_s hz h2 rfl rfl))
theorem u_rf_entryComes (v1 : Int) (m : mR) : RP (rf_entryComes v1 m) (fun z : Int × mR => fr rF_entryComes rA_entryComes m z.2) := by
  unfold rf_entryComes
  refine RP_bndT (fun y21 => ?_)
  refine RP_ite (fun h1 => ?_) (fun h1 => ?_)
  · skip
    exact RP_some fr_0
  · skip
    refine RP_bndT (fun y24 => ?_)
    refine RP_ite (fun h2 => ?_) (fun h2 => ?_)
    · skip
      exact RP_some fr_0
    · skip
      refine RP_ite (fun h3 => ?_) (fun h3 => ?_)
      · skip
        refine RP_ite (fun h4 => ?_) (fun h4 => ?_)
        · skip
          exact RP_some fr_0
        · skip
          exact RP_w (u_rfl_entryComes_48 v1 m) (fun z hz => (fr_s hz fr_0 rfl rfl))
      · skip
        exact RP_w (u_rfl_entryComes_48 v1 m) (fun z hz => (fr_s hz fr_0 rfl rfl))
def rF_entryChanges : List Nat := []
def rA_entryChanges : List Nat := [141, 144]
theorem u_rf_entryChanges (v1 : Int) (m : mR) : RP (rf_entryChanges v1 m) (fun z : Int × mR => fr rF_entryChanges rA_entryChanges m z.2) := by
  unfold rf_entryChanges
  refine RP_bndT (fun y1 => ?_)
  refine RP_ite (fun h1 => ?_) (fun h1 => ?_)
  · skip
    exact RP_some fr_0
  · skip
    refine RP_bndT (fun y4 => ?_)
    refine RP_ite (fun h2 => ?_) (fun h2 => ?_)
    · skip
      exact RP_some fr_0
    · skip
      refine RP_bnd (u_rf_putAction v1 y1 m) (fun y7 h3 => ?_)
      have h4 : fr rF_entryChanges rA_entryChanges m y7.2 := (fr_s h3 fr_0 rfl rfl)
      exact RP_some h4
def rF_entryGoes : List Nat := []
def rA_entryGoes : List Nat := [139, 140, 141, 142, 143, 144]
def F_rfl_entryGoes_145 : List Nat := []
def A_rfl_entryGoes_145 : List Nat := []
theorem u_rfl_entryGoes_145 (v1 : Int) (v3 : Int) (m : mR) : RP (rfl_entryGoes_145 v1 v3 m) (sel (fun z : (Int × mR) => fr F_rfl_entryGoes_145 A_rfl_entryGoes_145 m z.2) (fun z : mR => fr F_rfl_entryGoes_145 A_rfl_entryGoes_145 m z)) := by
  unfold rfl_entryGoes_145
  exact RP_some fr_0
def F_rfb_entryGoes_80 : List Nat := []
def A_rfb_entryGoes_80 : List Nat := [142, 143, 144]
theorem u_rfb_entryGoes_80 (v1 : Int) (v3 : Int) (v4 : Int) (s : Int × mR) : RP (rfb_entryGoes_80 v1 v3 v4 s) (sel (fun z : (Int × mR) => fr F_rfb_entryGoes_80 A_rfb_entryGoes_80 s.2 z.2) (fun z : mR => fr F_rfb_entryGoes_80 A_rfb_entryGoes_80 s.2 z)) := by
  unfold rfb_entryGoes_80
  refine RP_ite (fun h1 => ?_) (fun h1 => ?_)
  · skip
    exact RP_some fr_0
  · skip
    exact RP_some (fr_m fr_0 rfl rfl)
theorem uw_rfb_entryGoes_80 (v1 : Int) (v3 : Int) (v4 : Int) (s : Int × mR) : RP (whl (rfb_entryGoes_80 v1 v3 v4) s) (fun z : mR => fr F_rfb_entryGoes_80 A_rfb_entryGoes_80 s.2 z) := RP_whl (I := fun q : Int × mR => fr F_rfb_entryGoes_80 A_rfb_entryGoes_80 s.2 q.2) (fun q hq => RP_w (u_rfb_entryGoes_80 v1 v3 v4 q) (sl_w (fun z hz => (fr_s hz hq rfl rfl)) (fun z hz => (fr_s hz hq rfl rfl)))) fr_0
def F_rfb_entryGoes_24 : List Nat := []
def A_rfb_entryGoes_24 : List Nat := [140, 141, 142, 143, 144]
theorem u_rfb_entryGoes_24 (v1 : Int) (s : Int × mR) : RP (rfb_entryGoes_24 v1 s) (sel (fun z : (Int × mR) => fr F_rfb_entryGoes_24 A_rfb_entryGoes_24 s.2 z.2) (fun z : mR => fr F_rfb_entryGoes_24 A_rfb_entryGoes_24 s.2 z)) := by
  unfold rfb_entryGoes_24
  refine RP_ite (fun h1 => ?_) (fun h1 => ?_)
  · skip
    exact RP_some fr_0
  · skip
    refine RP_bndT (fun y7 => ?_)
    refine RP_bnd (uw_rfb_entryGoes_80 v1 s.1 y7 (cut (4 * y7), (mO s.2 [] [(140, upI (s.2.2 140) y7 ((s.2.2 140) (cut (y7 + 1)))), (141, upI (s.2.2 141) y7 ((s.2.2 141) (cut (y7 + 1))))]))) (fun e9 h2 => ?_)
    have h3 : fr F_rfb_entryGoes_24 A_rfb_entryGoes_24 s.2 e9 := (fr_s h2 (fr_m fr_0 rfl rfl) rfl rfl)
    exact RP_w (u_rfl_entryGoes_145 v1 s.1 e9) (sl_w (fun z hz => (fr_s hz h3 rfl rfl)) (fun z hz => (fr_s hz h3 rfl rfl)))
theorem uw_rfb_entryGoes_24 (v1 : Int) (s : Int × mR) : RP (whl (rfb_entryGoes_24 v1) s) (fun z : mR => fr F_rfb_entryGoes_24 A_rfb_entryGoes_24 s.2 z) := RP_whl (I := fun q : Int × mR => fr F_rfb_entryGoes_24 A_rfb_entryGoes_24 s.2 q.2) (fun q hq => RP_w (u_rfb_entryGoes_24 v1 q) (sl_w (fun z hz => (fr_s hz hq rfl rfl)) (fun z hz => (fr_s hz hq rfl rfl)))) fr_0
theorem u_rf_entryGoes (v1 : Int) (m : mR) : RP (rf_entryGoes v1 m) (fun z : Int × mR => fr rF_entryGoes rA_entryGoes m z.2) := by
  unfold rf_entryGoes
  refine RP_bndT (fun y12 => ?_)
  refine RP_ite (fun h1 => ?_) (fun h1 => ?_)
  · skip
    refine RP_bnd (uw_rfb_entryGoes_24 v1 (y12, (mO m [] [(139, upI (m.2 139) v1 (cut (((m.2 139) v1) - 1)))]))) (fun e15 h2 => ?_)
    have h3 : fr rF_entryGoes rA_entryGoes m e15 := (fr_s h2 (fr_m fr_0 rfl rfl) rfl rfl)
    exact RP_some h3
  · skip
    exact RP_some fr_0
def rF_extract : List Nat := [176]
def rA_extract : List Nat := [171, 175]
def F_rfl_extract_145 : List Nat := [176]
def A_rfl_extract_145 : List Nat := [175]
theorem u_rfl_extract_145 (v1 : Int) (v2 : Int) (m : mR) : RP (rfl_extract_145 v1 v2 m) (fun z : Int × mR => fr F_rfl_extract_145 A_rfl_extract_145 m z.2) := by
  unfold rfl_extract_145
  exact RP_some (fr_m fr_0 rfl rfl)
def F_rfl_extract_125 : List Nat := []
def A_rfl_extract_125 : List Nat := [171]
theorem u_rfl_extract_125 (v1 : Int) (v2 : Int) (v3 : Int) (v4 : Int) (v5 : Int) (m : mR) : RP (rfl_extract_125 v1 v2 v3 v4 v5 m) (sel (fun z : (Int × Int × mR) => fr F_rfl_extract_125 A_rfl_extract_125 m z.2.2) (fun z : mR => fr F_rfl_extract_125 A_rfl_extract_125 m z)) := by
  unfold rfl_extract_125
  exact RP_some (fr_m fr_0 rfl rfl)
def F_rfb_extract_55 : List Nat := []
def A_rfb_extract_55 : List Nat := [171]
theorem u_rfb_extract_55 (v1 : Int) (v2 : Int) (s : Int × Int × mR) : RP (rfb_extract_55 v1 v2 s) (sel (fun z : (Int × Int × mR) => fr F_rfb_extract_55 A_rfb_extract_55 s.2.2 z.2.2) (fun z : mR => fr F_rfb_extract_55 A_rfb_extract_55 s.2.2 z)) := by
  unfold rfb_extract_55
  refine RP_ite (fun h1 => ?_) (fun h1 => ?_)
  · skip
    exact RP_some fr_0
  · skip
    refine RP_bndT (fun e9 => ?_)
    exact RP_w (u_rfl_extract_125 v1 v2 e9.1 s.2.1 e9.2 s.2.2) (sl_w (fun z hz => (fr_s hz fr_0 rfl rfl)) (fun z hz => (fr_s hz fr_0 rfl rfl)))
theorem uw_rfb_extract_55 (v1 : Int) (v2 : Int) (s : Int × Int × mR) : RP (whl (rfb_extract_55 v1 v2) s) (fun z : mR => fr F_rfb_extract_55 A_rfb_extract_55 s.2.2 z) := RP_whl (I := fun q : Int × Int × mR => fr F_rfb_extract_55 A_rfb_extract_55 s.2.2 q.2.2) (fun q hq => RP_w (u_rfb_extract_55 v1 v2 q) (sl_w (fun z hz => (fr_s hz hq rfl rfl)) (fun z hz => (fr_s hz hq rfl rfl)))) fr_0
theorem u_rf_extract (v1 : Int) (m : mR) : RP (rf_extract v1 m) (fun z : Int × mR => fr rF_extract rA_extract m z.2) := by
  unfold rf_extract
  refine RP_ite (fun h1 => ?_) (fun h1 => ?_)
  · skip
    refine RP_ite (fun h2 => ?_) (fun h2 => ?_)
    · skip
      refine RP_bnd (uw_rfb_extract_55 v1 ((m.2 34) v1) (cut (8 * (m.1 176)), 0, m)) (fun e15 h3 => ?_)
      have h4 : fr rF_extract rA_extract m e15 := (fr_s h3 fr_0 rfl rfl)
      exact RP_w (u_rfl_extract_145 v1 ((m.2 34) v1) e15) (fun z hz => (fr_s hz h4 rfl rfl))
    · skip
      exact RP_some fr_0
  · skip
    exact RP_some fr_0
def rF_worth : List Nat := []
def rA_worth : List Nat := [173]
def F_rfl_worth_448 : List Nat := []
def A_rfl_worth_448 : List Nat := []
theorem u_rfl_worth_448 (m : mR) : RP (rfl_worth_448 m) (fun z : Int × mR => fr F_rfl_worth_448 A_rfl_worth_448 m z.2) := by
  unfold rfl_worth_448
  exact RP_some fr_0
def F_rfl_worth_442 : List Nat := []
def A_rfl_worth_442 : List Nat := []
theorem u_rfl_worth_442 (v2 : Int) (v3 : Int) (v4 : Int) (m : mR) : RP (rfl_worth_442 v2 v3 v4 m) (sel (fun z : (Int × Int × mR) => fr F_rfl_worth_442 A_rfl_worth_442 m z.2.2) (fun z : mR => fr F_rfl_worth_442 A_rfl_worth_442 m z)) := by
  unfold rfl_worth_442
  exact RP_some fr_0
def F_rfl_worth_399 : List Nat := []
def A_rfl_worth_399 : List Nat := [173]
theorem u_rfl_worth_399 (v2 : Int) (v3 : Int) (v4 : Int) (u1 : Int) (u2 : Int) (m : mR) : RP (rfl_worth_399 v2 v3 v4 u1 u2 m) (sel (fun z : (Int × Int × mR) => fr F_rfl_worth_399 A_rfl_worth_399 m z.2.2) (fun z : mR => fr F_rfl_worth_399 A_rfl_worth_399 m z)) := by
  unfold rfl_worth_399
  exact RP_w (u_rfl_worth_442 v2 v3 v4 (mO m [] [(173, upI (m.2 173) u1 u2)])) (sl_w (fun z hz => (fr_s hz (fr_m fr_0 rfl rfl) rfl rfl)) (fun z hz => (fr_s hz (fr_m fr_0 rfl rfl) rfl rfl)))
def F_rfb_worth_5 : List Nat := []
def A_rfb_worth_5 : List Nat := [173]
theorem u_rfb_worth_5 (v2 : Int) (s : Int × Int × mR) : RP (rfb_worth_5 v2 s) (sel (fun z : (Int × Int × mR) => fr F_rfb_worth_5 A_rfb_worth_5 s.2.2 z.2.2) (fun z : mR => fr F_rfb_worth_5 A_rfb_worth_5 s.2.2 z)) := by
  unfold rfb_worth_5
  refine RP_ite (fun h1 => ?_) (fun h1 => ?_)
  · skip
    exact RP_some fr_0
  · skip
    refine RP_ite (fun h2 => ?_) (fun h2 => ?_)
    · skip
      exact RP_w (u_rfl_worth_442 v2 s.1 s.2.1 (mO s.2.2 [] [(173, upI (s.2.2.2 173) (cut (s.1 - 1)) (cutl (1 - ((s.2.2.2 173) (cut (s.1 - 1))))))])) (sl_w (fun z hz => (fr_s hz (fr_m fr_0 rfl rfl) rfl rfl)) (fun z hz => (fr_s hz (fr_m fr_0 rfl rfl) rfl rfl)))
    · skip
      refine RP_ite (fun h3 => ?_) (fun h3 => ?_)
      · skip
        refine RP_bndT (fun y6 => ?_)
        exact RP_w (u_rfl_worth_442 v2 s.1 s.2.1 (mO s.2.2 [] [(173, upI (s.2.2.2 173) (cut (s.1 - 1)) y6)])) (sl_w (fun z hz => (fr_s hz (fr_m fr_0 rfl rfl) rfl rfl)) (fun z hz => (fr_s hz (fr_m fr_0 rfl rfl) rfl rfl)))
      · skip
        refine RP_ite (fun h4 => ?_) (fun h4 => ?_)
        · skip
          exact RP_w (u_rfl_worth_442 v2 (cut (s.1 + 1)) s.2.1 (mO s.2.2 [] [(173, upI (s.2.2.2 173) s.1 ((s.2.2.2 68) s.2.1))])) (sl_w (fun z hz => (fr_s hz (fr_m fr_0 rfl rfl) rfl rfl)) (fun z hz => (fr_s hz (fr_m fr_0 rfl rfl) rfl rfl)))
        · skip
          refine RP_ite (fun h5 => ?_) (fun h5 => ?_)
          · skip
            exact RP_w (u_rfl_worth_442 v2 (cut (s.1 + 1)) s.2.1 (mO s.2.2 [] [(173, upI (s.2.2.2 173) s.1 ((s.2.2.2 171) ((s.2.2.2 67) s.2.1)))])) (sl_w (fun z hz => (fr_s hz (fr_m fr_0 rfl rfl) rfl rfl)) (fun z hz => (fr_s hz (fr_m fr_0 rfl rfl) rfl rfl)))
          · skip
            refine RP_ite (fun h6 => ?_) (fun h6 => ?_)
            · skip
              exact RP_w (u_rfl_worth_442 v2 (cut (s.1 + 1)) s.2.1 (mO s.2.2 [] [(173, upI (s.2.2.2 173) s.1 ((s.2.2.2 172) ((s.2.2.2 67) s.2.1)))])) (sl_w (fun z hz => (fr_s hz (fr_m fr_0 rfl rfl) rfl rfl)) (fun z hz => (fr_s hz (fr_m fr_0 rfl rfl) rfl rfl)))
            · skip
              refine RP_ite (fun h7 => ?_) (fun h7 => ?_)
              · skip
                exact RP_w (u_rfl_worth_442 v2 (cut (s.1 + 1)) s.2.1 (mO s.2.2 [] [(173, upI (s.2.2.2 173) s.1 ((s.2.2.2 174) ((s.2.2.2 67) s.2.1)))])) (sl_w (fun z hz => (fr_s hz (fr_m fr_0 rfl rfl) rfl rfl)) (fun z hz => (fr_s hz (fr_m fr_0 rfl rfl) rfl rfl)))
              · skip
                refine RP_ite (fun h8 => ?_) (fun h8 => ?_)
                · skip
                  refine RP_bndT (fun y13 => ?_)
                  exact RP_w (u_rfl_worth_442 v2 (cut (s.1 + 1)) s.2.1 (mO s.2.2 [] [(173, upI (s.2.2.2 173) s.1 y13)])) (sl_w (fun z hz => (fr_s hz (fr_m fr_0 rfl rfl) rfl rfl)) (fun z hz => (fr_s hz (fr_m fr_0 rfl rfl) rfl rfl)))
                · skip
                  refine RP_ite (fun h9 => ?_) (fun h9 => ?_)
                  · skip
                    refine RP_bndT (fun y16 => ?_)
                    exact RP_w (u_rfl_worth_442 v2 s.1 s.2.1 (mO s.2.2 [] [(173, upI (s.2.2.2 173) (cut (s.1 - 1)) y16)])) (sl_w (fun z hz => (fr_s hz (fr_m fr_0 rfl rfl) rfl rfl)) (fun z hz => (fr_s hz (fr_m fr_0 rfl rfl) rfl rfl)))
                  · skip
                    refine RP_ite (fun h10 => ?_) (fun h10 => ?_)
                    · skip
                      refine RP_bndT (fun y19 => ?_)
                      exact RP_w (u_rfl_worth_442 v2 s.1 s.2.1 (mO s.2.2 [] [(173, upI (s.2.2.2 173) (cut (s.1 - 1)) y19)])) (sl_w (fun z hz => (fr_s hz (fr_m fr_0 rfl rfl) rfl rfl)) (fun z hz => (fr_s hz (fr_m fr_0 rfl rfl) rfl rfl)))
                    · skip
                      refine RP_ite (fun h11 => ?_) (fun h11 => ?_)
                      · skip
                        refine RP_ite (fun h12 => ?_) (fun h12 => ?_)
                        · skip
                          exact RP_w (u_rfl_worth_399 v2 (cut (s.1 + (-2))) s.2.1 (cut ((cut (s.1 + (-2))) - 1)) ((s.2.2.2 173) (cut (s.1 + (-2)))) s.2.2) (sl_w (fun z hz => (fr_s hz fr_0 rfl rfl)) (fun z hz => (fr_s hz fr_0 rfl rfl)))
                        · skip
                          exact RP_w (u_rfl_worth_399 v2 (cut (s.1 + (-2))) s.2.1 (cut ((cut (s.1 + (-2))) - 1)) ((s.2.2.2 173) (cut ((cut (s.1 + (-2))) + 1))) s.2.2) (sl_w (fun z hz => (fr_s hz fr_0 rfl rfl)) (fun z hz => (fr_s hz fr_0 rfl rfl)))
                      · skip
                        refine RP_ite (fun h13 => ?_) (fun h13 => ?_)
                        · skip
                          refine RP_bndT (fun y24 => ?_)
                          exact RP_w (u_rfl_worth_442 v2 s.1 s.2.1 (mO s.2.2 [] [(173, upI (s.2.2.2 173) (cut (s.1 - 1)) y24)])) (sl_w (fun z hz => (fr_s hz (fr_m fr_0 rfl rfl) rfl rfl)) (fun z hz => (fr_s hz (fr_m fr_0 rfl rfl) rfl rfl)))
                        · skip
                          refine RP_bndT (fun y26 => ?_)
                          exact RP_w (u_rfl_worth_442 v2 (cut (s.1 + (-1))) s.2.1 (mO s.2.2 [] [(173, upI (s.2.2.2 173) (cut ((cut (s.1 + (-1))) - 1)) y26)])) (sl_w (fun z hz => (fr_s hz (fr_m fr_0 rfl rfl) rfl rfl)) (fun z hz => (fr_s hz (fr_m fr_0 rfl rfl) rfl rfl)))
theorem uw_rfb_worth_5 (v2 : Int) (s : Int × Int × mR) : RP (whl (rfb_worth_5 v2) s) (fun z : mR => fr F_rfb_worth_5 A_rfb_worth_5 s.2.2 z) := RP_whl (I := fun q : Int × Int × mR => fr F_rfb_worth_5 A_rfb_worth_5 s.2.2 q.2.2) (fun q hq => RP_w (u_rfb_worth_5 v2 q) (sl_w (fun z hz => (fr_s hz hq rfl rfl)) (fun z hz => (fr_s hz hq rfl rfl)))) fr_0
theorem u_rf_worth (v1 : Int) (v2 : Int) (m : mR) : RP (rf_worth v1 v2 m) (fun z : Int × mR => fr rF_worth rA_worth m z.2) := by
  unfold rf_worth
  refine RP_bnd (uw_rfb_worth_5 v2 (0, v1, m)) (fun e28 h1 => ?_)
  have h2 : fr rF_worth rA_worth m e28 := (fr_s h1 fr_0 rfl rfl)
  exact RP_w (u_rfl_worth_448 e28) (fun z hz => (fr_s hz h2 rfl rfl))
def rF_readPacket : List Nat := [176, 177]
def rA_readPacket : List Nat := [171, 172, 173, 175]
def F_rfl_readPacket_312 : List Nat := []
def A_rfl_readPacket_312 : List Nat := []
theorem u_rfl_readPacket_312 (u0 : Int) (m : mR) : RP (rfl_readPacket_312 u0 m) (fun z : Int × mR => fr F_rfl_readPacket_312 A_rfl_readPacket_312 m z.2) := by
  unfold rfl_readPacket_312
  exact RP_some fr_0
def F_rfl_readPacket_302 : List Nat := []
def A_rfl_readPacket_302 : List Nat := []
theorem u_rfl_readPacket_302 (v1 : Int) (m : mR) : RP (rfl_readPacket_302 v1 m) (fun z : Int × mR => fr F_rfl_readPacket_302 A_rfl_readPacket_302 m z.2) := by
  unfold rfl_readPacket_302
  refine RP_ite (fun h1 => ?_) (fun h1 => ?_)
  · skip
    exact RP_w (u_rfl_readPacket_312 1 m) (fun z hz => (fr_s hz fr_0 rfl rfl))
  · skip
    exact RP_w (u_rfl_readPacket_312 0 m) (fun z hz => (fr_s hz fr_0 rfl rfl))
def F_rfl_readPacket_298 : List Nat := []
def A_rfl_readPacket_298 : List Nat := []
theorem u_rfl_readPacket_298 (u0 : Int) (m : mR) : RP (rfl_readPacket_298 u0 m) (sel (fun z : (Int × mR) => fr F_rfl_readPacket_298 A_rfl_readPacket_298 m z.2) (sel (fun z : (mR) => fr F_rfl_readPacket_298 A_rfl_readPacket_298 m z) (fun z : Int × mR => fr F_rfl_readPacket_298 A_rfl_readPacket_298 m z.2))) := by
  unfold rfl_readPacket_298
  exact RP_some fr_0
def F_rfl_readPacket_284 : List Nat := []
def A_rfl_readPacket_284 : List Nat := []
theorem u_rfl_readPacket_284 (v2 : Int) (m : mR) : RP (rfl_readPacket_284 v2 m) (sel (fun z : (Int × mR) => fr F_rfl_readPacket_284 A_rfl_readPacket_284 m z.2) (sel (fun z : (mR) => fr F_rfl_readPacket_284 A_rfl_readPacket_284 m z) (fun z : Int × mR => fr F_rfl_readPacket_284 A_rfl_readPacket_284 m z.2))) := by
  unfold rfl_readPacket_284
  refine RP_ite (fun h1 => ?_) (fun h1 => ?_)
  · skip
    exact RP_w (u_rfl_readPacket_298 ((m.2 38) v2) m) (sl_w (fun z hz => (fr_s hz fr_0 rfl rfl)) (sl_w (fun z hz => (fr_s hz fr_0 rfl rfl)) (fun z hz => (fr_s hz fr_0 rfl rfl))))
  · skip
    exact RP_w (u_rfl_readPacket_298 v2 m) (sl_w (fun z hz => (fr_s hz fr_0 rfl rfl)) (sl_w (fun z hz => (fr_s hz fr_0 rfl rfl)) (fun z hz => (fr_s hz fr_0 rfl rfl))))
def F_rfl_readPacket_205 : List Nat := []
def A_rfl_readPacket_205 : List Nat := []
theorem u_rfl_readPacket_205 (v1 : Int) (v2 : Int) (v3 : Int) (u0 : Int) (m : mR) : RP (rfl_readPacket_205 v1 v2 v3 u0 m) (sel (fun z : (Int × mR) => fr F_rfl_readPacket_205 A_rfl_readPacket_205 m z.2) (sel (fun z : (mR) => fr F_rfl_readPacket_205 A_rfl_readPacket_205 m z) (fun z : Int × mR => fr F_rfl_readPacket_205 A_rfl_readPacket_205 m z.2))) := by
  unfold rfl_readPacket_205
  refine RP_bndT (fun e17 => ?_)
  exact RP_w (u_rfl_readPacket_284 e17 m) (sl_w (fun z hz => (fr_s hz fr_0 rfl rfl)) (sl_w (fun z hz => (fr_s hz fr_0 rfl rfl)) (fun z hz => (fr_s hz fr_0 rfl rfl))))
def F_rfl_readPacket_180 : List Nat := []
def A_rfl_readPacket_180 : List Nat := [173]
theorem u_rfl_readPacket_180 (v1 : Int) (v2 : Int) (u0 : Int) (m : mR) : RP (rfl_readPacket_180 v1 v2 u0 m) (sel (fun z : (Int × mR) => fr F_rfl_readPacket_180 A_rfl_readPacket_180 m z.2) (sel (fun z : (mR) => fr F_rfl_readPacket_180 A_rfl_readPacket_180 m z) (fun z : Int × mR => fr F_rfl_readPacket_180 A_rfl_readPacket_180 m z.2))) := by
  unfold rfl_readPacket_180
  refine RP_ite (fun h1 => ?_) (fun h1 => ?_)
  · skip
    refine RP_bnd (u_rf_worth ((m.2 95) v1) ((m.2 96) v1) m) (fun y21 h2 => ?_)
    have h3 : fr F_rfl_readPacket_180 A_rfl_readPacket_180 m y21.2 := (fr_s h2 fr_0 rfl rfl)
    exact RP_w (u_rfl_readPacket_205 v1 v2 u0 y21.1 y21.2) (sl_w (fun z hz => (fr_s hz h3 rfl rfl)) (sl_w (fun z hz => (fr_s hz h3 rfl rfl)) (fun z hz => (fr_s hz h3 rfl rfl))))
  · skip
    exact RP_w (u_rfl_readPacket_205 v1 v2 u0 0 m) (sl_w (fun z hz => (fr_s hz fr_0 rfl rfl)) (sl_w (fun z hz => (fr_s hz fr_0 rfl rfl)) (fun z hz => (fr_s hz fr_0 rfl rfl))))
def F_rfl_readPacket_159 : List Nat := []
def A_rfl_readPacket_159 : List Nat := [173]
theorem u_rfl_readPacket_159 (v1 : Int) (m : mR) : RP (rfl_readPacket_159 v1 m) (sel (fun z : (Int × mR) => fr F_rfl_readPacket_159 A_rfl_readPacket_159 m z.2) (sel (fun z : (mR) => fr F_rfl_readPacket_159 A_rfl_readPacket_159 m z) (fun z : Int × mR => fr F_rfl_readPacket_159 A_rfl_readPacket_159 m z.2))) := by
  unfold rfl_readPacket_159
  refine RP_ite (fun h1 => ?_) (fun h1 => ?_)
  · skip
    exact RP_w (u_rfl_readPacket_180 v1 ((m.2 44) v1) 1 m) (sl_w (fun z hz => (fr_s hz fr_0 rfl rfl)) (sl_w (fun z hz => (fr_s hz fr_0 rfl rfl)) (fun z hz => (fr_s hz fr_0 rfl rfl))))
  · skip
    exact RP_w (u_rfl_readPacket_180 v1 ((m.2 44) v1) 0 m) (sl_w (fun z hz => (fr_s hz fr_0 rfl rfl)) (sl_w (fun z hz => (fr_s hz fr_0 rfl rfl)) (fun z hz => (fr_s hz fr_0 rfl rfl))))
def F_rfl_readPacket_148 : List Nat := []
def A_rfl_readPacket_148 : List Nat := []
theorem u_rfl_readPacket_148 (v1 : Int) (v2 : Int) (u0 : Int) (m : mR) : RP (rfl_readPacket_148 v1 v2 u0 m) (sel (fun z : (Int × mR) => fr F_rfl_readPacket_148 A_rfl_readPacket_148 m z.2) (sel (fun z : (mR) => fr F_rfl_readPacket_148 A_rfl_readPacket_148 m z) (fun z : mR => fr F_rfl_readPacket_148 A_rfl_readPacket_148 m z))) := by
  unfold rfl_readPacket_148
  refine RP_ite (fun h1 => ?_) (fun h1 => ?_)
  · skip
    exact RP_some fr_0
  · skip
    exact RP_some fr_0
def F_rfb_readPacket_123 : List Nat := [176]
def A_rfb_readPacket_123 : List Nat := [171, 175]
theorem u_rfb_readPacket_123 (v1 : Int) (s : Int × mR) : RP (rfb_readPacket_123 v1 s) (sel (fun z : (Int × mR) => fr F_rfb_readPacket_123 A_rfb_readPacket_123 s.2 z.2) (sel (fun z : (mR) => fr F_rfb_readPacket_123 A_rfb_readPacket_123 s.2 z) (fun z : mR => fr F_rfb_readPacket_123 A_rfb_readPacket_123 s.2 z))) := by
  unfold rfb_readPacket_123
  refine RP_ite (fun h1 => ?_) (fun h1 => ?_)
  · skip
    exact RP_some fr_0
  · skip
    refine RP_bnd (u_rf_extract ((s.2.2 94) (cut ((cut (6 * v1)) + s.1))) s.2) (fun y29 h2 => ?_)
    have h3 : fr F_rfb_readPacket_123 A_rfb_readPacket_123 s.2 y29.2 := (fr_s h2 fr_0 rfl rfl)
    exact RP_w (u_rfl_readPacket_148 v1 s.1 y29.1 y29.2) (sl_w (fun z hz => (fr_s hz h3 rfl rfl)) (sl_w (fun z hz => (fr_s hz h3 rfl rfl)) (fun z hz => (fr_s hz h3 rfl rfl))))
theorem uw_rfb_readPacket_123 (v1 : Int) (s : Int × mR) : RP (whl (rfb_readPacket_123 v1) s) (sel (fun z : ((mR)) => fr F_rfb_readPacket_123 A_rfb_readPacket_123 s.2 z) (fun z : mR => fr F_rfb_readPacket_123 A_rfb_readPacket_123 s.2 z)) := RP_whl (I := fun q : Int × mR => fr F_rfb_readPacket_123 A_rfb_readPacket_123 s.2 q.2) (fun q hq => RP_w (u_rfb_readPacket_123 v1 q) (sl_w (fun z hz => (fr_s hz hq rfl rfl)) (sl_w (fun z hz => (fr_s hz hq rfl rfl)) (fun z hz => (fr_s hz hq rfl rfl))))) fr_0
def F_rfb_readPacket_117 : List Nat := [176]
def A_rfb_readPacket_117 : List Nat := [171, 173, 175]
theorem u_rfb_readPacket_117 (s : Int × mR) : RP (rfb_readPacket_117 s) (sel (fun z : (Int × mR) => fr F_rfb_readPacket_117 A_rfb_readPacket_117 s.2 z.2) (sel (fun z : (mR) => fr F_rfb_readPacket_117 A_rfb_readPacket_117 s.2 z) (fun z : Int × mR => fr F_rfb_readPacket_117 A_rfb_readPacket_117 s.2 z.2))) := by
  unfold rfb_readPacket_117
  refine RP_ite (fun h1 => ?_) (fun h1 => ?_)
  · skip
    exact RP_some fr_0
  · skip
    refine RP_bnd (uw_rfb_readPacket_123 s.1 (0, s.2)) (RP_sl (fun e36 h2 => ?_) (fun e39 h4 => ?_))
    · skip
      have h3 : fr F_rfb_readPacket_117 A_rfb_readPacket_117 s.2 e36 := (fr_s h2 fr_0 rfl rfl)
      exact RP_some h3
    · skip
      have h5 : fr F_rfb_readPacket_117 A_rfb_readPacket_117 s.2 e39 := (fr_s h4 fr_0 rfl rfl)
      exact RP_w (u_rfl_readPacket_159 s.1 e39) (sl_w (fun z hz => (fr_s hz h5 rfl rfl)) (sl_w (fun z hz => (fr_s hz h5 rfl rfl)) (fun z hz => (fr_s hz h5 rfl rfl))))
theorem uw_rfb_readPacket_117 (s : Int × mR) : RP (whl rfb_readPacket_117 s) (sel (fun z : ((mR)) => fr F_rfb_readPacket_117 A_rfb_readPacket_117 s.2 z) (fun z : Int × mR => fr F_rfb_readPacket_117 A_rfb_readPacket_117 s.2 z.2)) := RP_whl (I := fun q : Int × mR => fr F_rfb_readPacket_117 A_rfb_readPacket_117 s.2 q.2) (fun q hq => RP_w (u_rfb_readPacket_117 q) (sl_w (fun z hz => (fr_s hz hq rfl rfl)) (sl_w (fun z hz => (fr_s hz hq rfl rfl)) (fun z hz => (fr_s hz hq rfl rfl))))) fr_0
def F_rfl_readPacket_116 : List Nat := [176]
def A_rfl_readPacket_116 : List Nat := [171, 173, 175]
theorem u_rfl_readPacket_116 (u0 : Int) (m : mR) : RP (rfl_readPacket_116 u0 m) (fun z : Int × mR => fr F_rfl_readPacket_116 A_rfl_readPacket_116 m z.2) := by
  unfold rfl_readPacket_116
  refine RP_bnd (uw_rfb_readPacket_117 (u0, m)) (RP_sl (fun e42 h1 => ?_) (fun e45 h3 => ?_))
  · skip
    have h2 : fr F_rfl_readPacket_116 A_rfl_readPacket_116 m e42 := (fr_s h1 fr_0 rfl rfl)
    exact RP_some h2
  · skip
    have h4 : fr F_rfl_readPacket_116 A_rfl_readPacket_116 m e45.2 := (fr_s h3 fr_0 rfl rfl)
    exact RP_w (u_rfl_readPacket_302 e45.1 e45.2) (fun z hz => (fr_s hz h4 rfl rfl))
def F_rfl_readPacket_64 : List Nat := [176, 177]
def A_rfl_readPacket_64 : List Nat := [171, 172, 173, 175]
theorem u_rfl_readPacket_64 (m : mR) : RP (rfl_readPacket_64 m) (fun z : Int × mR => fr F_rfl_readPacket_64 A_rfl_readPacket_64 m z.2) := by
  unfold rfl_readPacket_64
  refine RP_ite (fun h1 => ?_) (fun h1 => ?_)
  · skip
    exact RP_w (u_rfl_readPacket_116 (-1) (mO m [(176, 0), (177, 0)] [(172, upI (upI (m.2 172) 0 (and32 ((m.2 155) 0) 65535)) 1 ((m.2 154) 0))])) (fun z hz => (fr_s hz (fr_m fr_0 rfl rfl) rfl rfl))
  · skip
    exact RP_w (u_rfl_readPacket_116 0 (mO m [(176, 0), (177, 0)] [(172, upI (upI (m.2 172) 0 (and32 ((m.2 155) 0) 65535)) 1 ((m.2 154) 0))])) (fun z hz => (fr_s hz (fr_m fr_0 rfl rfl) rfl rfl))
def F_rfb_readPacket_45 : List Nat := []
def A_rfb_readPacket_45 : List Nat := [172]
theorem u_rfb_readPacket_45 (s : Int × mR) : RP (rfb_readPacket_45 s) (sel (fun z : (Int × mR) => fr F_rfb_readPacket_45 A_rfb_readPacket_45 s.2 z.2) (fun z : mR => fr F_rfb_readPacket_45 A_rfb_readPacket_45 s.2 z)) := by
  unfold rfb_readPacket_45
  refine RP_ite (fun h1 => ?_) (fun h1 => ?_)
  · skip
    exact RP_some fr_0
  · skip
    exact RP_some (fr_m fr_0 rfl rfl)
theorem uw_rfb_readPacket_45 (s : Int × mR) : RP (whl rfb_readPacket_45 s) (fun z : mR => fr F_rfb_readPacket_45 A_rfb_readPacket_45 s.2 z) := RP_whl (I := fun q : Int × mR => fr F_rfb_readPacket_45 A_rfb_readPacket_45 s.2 q.2) (fun q hq => RP_w (u_rfb_readPacket_45 q) (sl_w (fun z hz => (fr_s hz hq rfl rfl)) (fun z hz => (fr_s hz hq rfl rfl)))) fr_0
def F_rfl_readPacket_43 : List Nat := [176, 177]
def A_rfl_readPacket_43 : List Nat := [171, 172, 173, 175]
theorem u_rfl_readPacket_43 (m : mR) : RP (rfl_readPacket_43 m) (fun z : Int × mR => fr F_rfl_readPacket_43 A_rfl_readPacket_43 m z.2) := by
  unfold rfl_readPacket_43
  refine RP_bnd (uw_rfb_readPacket_45 (0, m)) (fun e52 h1 => ?_)
  have h2 : fr F_rfl_readPacket_43 A_rfl_readPacket_43 m e52 := (fr_s h1 fr_0 rfl rfl)
  exact RP_w (u_rfl_readPacket_64 e52) (fun z hz => (fr_s hz h2 rfl rfl))
def F_rfb_readPacket_24 : List Nat := []
def A_rfb_readPacket_24 : List Nat := [175]
theorem u_rfb_readPacket_24 (s : Int × mR) : RP (rfb_readPacket_24 s) (sel (fun z : (Int × mR) => fr F_rfb_readPacket_24 A_rfb_readPacket_24 s.2 z.2) (fun z : mR => fr F_rfb_readPacket_24 A_rfb_readPacket_24 s.2 z)) := by
  unfold rfb_readPacket_24
  refine RP_ite (fun h1 => ?_) (fun h1 => ?_)
  · skip
    exact RP_some fr_0
  · skip
    exact RP_some (fr_m fr_0 rfl rfl)
theorem uw_rfb_readPacket_24 (s : Int × mR) : RP (whl rfb_readPacket_24 s) (fun z : mR => fr F_rfb_readPacket_24 A_rfb_readPacket_24 s.2 z) := RP_whl (I := fun q : Int × mR => fr F_rfb_readPacket_24 A_rfb_readPacket_24 s.2 q.2) (fun q hq => RP_w (u_rfb_readPacket_24 q) (sl_w (fun z hz => (fr_s hz hq rfl rfl)) (fun z hz => (fr_s hz hq rfl rfl)))) fr_0
def F_rfl_readPacket_22 : List Nat := [176, 177]
def A_rfl_readPacket_22 : List Nat := [171, 172, 173, 175]
theorem u_rfl_readPacket_22 (m : mR) : RP (rfl_readPacket_22 m) (fun z : Int × mR => fr F_rfl_readPacket_22 A_rfl_readPacket_22 m z.2) := by
  unfold rfl_readPacket_22
  refine RP_bnd (uw_rfb_readPacket_24 (0, m)) (fun e57 h1 => ?_)
  have h2 : fr F_rfl_readPacket_22 A_rfl_readPacket_22 m e57 := (fr_s h1 fr_0 rfl rfl)
  exact RP_w (u_rfl_readPacket_43 e57) (fun z hz => (fr_s hz h2 rfl rfl))
def F_rfb_readPacket_2 : List Nat := []
def A_rfb_readPacket_2 : List Nat := [171]
theorem u_rfb_readPacket_2 (s : Int × mR) : RP (rfb_readPacket_2 s) (sel (fun z : (Int × mR) => fr F_rfb_readPacket_2 A_rfb_readPacket_2 s.2 z.2) (fun z : mR => fr F_rfb_readPacket_2 A_rfb_readPacket_2 s.2 z)) := by
  unfold rfb_readPacket_2
  refine RP_ite (fun h1 => ?_) (fun h1 => ?_)
  · skip
    exact RP_some fr_0
  · skip
    exact RP_some (fr_m fr_0 rfl rfl)
theorem uw_rfb_readPacket_2 (s : Int × mR) : RP (whl rfb_readPacket_2 s) (fun z : mR => fr F_rfb_readPacket_2 A_rfb_readPacket_2 s.2 z) := RP_whl (I := fun q : Int × mR => fr F_rfb_readPacket_2 A_rfb_readPacket_2 s.2 q.2) (fun q hq => RP_w (u_rfb_readPacket_2 q) (sl_w (fun z hz => (fr_s hz hq rfl rfl)) (fun z hz => (fr_s hz hq rfl rfl)))) fr_0
theorem u_rf_readPacket (m : mR) : RP (rf_readPacket m) (fun z : Int × mR => fr rF_readPacket rA_readPacket m z.2) := by
  unfold rf_readPacket
  refine RP_bnd (uw_rfb_readPacket_2 (0, m)) (fun e62 h1 => ?_)
  have h2 : fr rF_readPacket rA_readPacket m e62 := (fr_s h1 fr_0 rfl rfl)
  exact RP_w (u_rfl_readPacket_22 e62) (fun z hz => (fr_s hz h2 rfl rfl))
def rF_put : List Nat := []
def rA_put : List Nat := [171, 172]
theorem u_rf_put (v1 : Int) (v2 : Int) (m : mR) : RP (rf_put v1 v2 m) (fun z : Int × mR => fr rF_put rA_put m z.2) := by
  unfold rf_put
  refine RP_ite (fun h1 => ?_) (fun h1 => ?_)
  · skip
    refine RP_ite (fun h2 => ?_) (fun h2 => ?_)
    · skip
      exact RP_some fr_0
    · skip
      exact RP_some (fr_m fr_0 rfl rfl)
  · skip
    exact RP_some (fr_m fr_0 rfl rfl)
def rF_wordAt : List Nat := []
def rA_wordAt : List Nat := [173]
def F_rfl_wordAt_25 : List Nat := []
def A_rfl_wordAt_25 : List Nat := []
theorem u_rfl_wordAt_25 (v1 : Int) (u0 : Int) (u1 : Int) (m : mR) : RP (rfl_wordAt_25 v1 u0 u1 m) (fun z : Int × mR => fr F_rfl_wordAt_25 A_rfl_wordAt_25 m z.2) := by
  unfold rfl_wordAt_25
  refine RP_bndT (fun y1 => ?_)
  exact RP_some fr_0
theorem u_rf_wordAt (v1 : Int) (m : mR) : RP (rf_wordAt v1 m) (fun z : Int × mR => fr rF_wordAt rA_wordAt m z.2) := by
  unfold rf_wordAt
  refine RP_bnd (u_rf_worth ((m.2 105) v1) ((m.2 106) v1) m) (fun y3 h1 => ?_)
  have h2 : fr rF_wordAt rA_wordAt m y3.2 := (fr_s h1 fr_0 rfl rfl)
  exact RP_w (u_rfl_wordAt_25 v1 (cut (64 * ((m.2 103) v1))) y3.1 y3.2) (fun z hz => (fr_s hz h2 rfl rfl))
def rF_doStatement : List Nat := [177]
def rA_doStatement : List Nat := [138, 171, 172, 173, 175]
def F_rfl_doStatement_211 : List Nat := []
def A_rfl_doStatement_211 : List Nat := [175]
theorem u_rfl_doStatement_211 (v3 : Int) (v4 : Int) (m : mR) : RP (rfl_doStatement_211 v3 v4 m) (fun z : Int × mR => fr F_rfl_doStatement_211 A_rfl_doStatement_211 m z.2) := by
  unfold rfl_doStatement_211
  exact RP_some (fr_m fr_0 rfl rfl)
def F_rfl_doStatement_197 : List Nat := []
def A_rfl_doStatement_197 : List Nat := [171]
theorem u_rfl_doStatement_197 (v3 : Int) (v4 : Int) (v5 : Int) (m : mR) : RP (rfl_doStatement_197 v3 v4 v5 m) (sel (fun z : (Int × mR) => fr F_rfl_doStatement_197 A_rfl_doStatement_197 m z.2) (fun z : mR => fr F_rfl_doStatement_197 A_rfl_doStatement_197 m z)) := by
  unfold rfl_doStatement_197
  exact RP_some (fr_m fr_0 rfl rfl)
def F_rfb_doStatement_171 : List Nat := []
def A_rfb_doStatement_171 : List Nat := [171]
theorem u_rfb_doStatement_171 (v3 : Int) (v4 : Int) (s : Int × mR) : RP (rfb_doStatement_171 v3 v4 s) (sel (fun z : (Int × mR) => fr F_rfb_doStatement_171 A_rfb_doStatement_171 s.2 z.2) (fun z : mR => fr F_rfb_doStatement_171 A_rfb_doStatement_171 s.2 z)) := by
  unfold rfb_doStatement_171
  refine RP_ite (fun h1 => ?_) (fun h1 => ?_)
  · skip
    exact RP_some fr_0
  · skip
    refine RP_ite (fun h2 => ?_) (fun h2 => ?_)
    · skip
      exact RP_w (u_rfl_doStatement_197 v3 v4 s.1 s.2) (sl_w (fun z hz => (fr_s hz fr_0 rfl rfl)) (fun z hz => (fr_s hz fr_0 rfl rfl)))
    · skip
      refine RP_ite (fun h3 => ?_) (fun h3 => ?_)
      · skip
        exact RP_w (u_rfl_doStatement_197 v3 v4 s.1 s.2) (sl_w (fun z hz => (fr_s hz fr_0 rfl rfl)) (fun z hz => (fr_s hz fr_0 rfl rfl)))
      · skip
        exact RP_some fr_0
theorem uw_rfb_doStatement_171 (v3 : Int) (v4 : Int) (s : Int × mR) : RP (whl (rfb_doStatement_171 v3 v4) s) (fun z : mR => fr F_rfb_doStatement_171 A_rfb_doStatement_171 s.2 z) := RP_whl (I := fun q : Int × mR => fr F_rfb_doStatement_171 A_rfb_doStatement_171 s.2 q.2) (fun q hq => RP_w (u_rfb_doStatement_171 v3 v4 q) (sl_w (fun z hz => (fr_s hz hq rfl rfl)) (fun z hz => (fr_s hz hq rfl rfl)))) fr_0
def F_rfl_doStatement_163 : List Nat := []
def A_rfl_doStatement_163 : List Nat := [171, 175]
theorem u_rfl_doStatement_163 (v3 : Int) (u0 : Int) (m : mR) : RP (rfl_doStatement_163 v3 u0 m) (fun z : Int × mR => fr F_rfl_doStatement_163 A_rfl_doStatement_163 m z.2) := by
  unfold rfl_doStatement_163
  refine RP_bnd (uw_rfb_doStatement_171 v3 u0 (cut (16 * v3), m)) (fun e6 h1 => ?_)
  have h2 : fr F_rfl_doStatement_163 A_rfl_doStatement_163 m e6 := (fr_s h1 fr_0 rfl rfl)
  exact RP_w (u_rfl_doStatement_211 v3 u0 e6) (fun z hz => (fr_s hz h2 rfl rfl))
def F_rfl_doStatement_127 : List Nat := []
def A_rfl_doStatement_127 : List Nat := [138]
theorem u_rfl_doStatement_127 (u1 : Int) (u2 : Int) (m : mR) : RP (rfl_doStatement_127 u1 u2 m) (fun z : Int × mR => fr F_rfl_doStatement_127 A_rfl_doStatement_127 m z.2) := by
  unfold rfl_doStatement_127
  exact RP_some (fr_m fr_0 rfl rfl)
def F_rfl_doStatement_105 : List Nat := []
def A_rfl_doStatement_105 : List Nat := [138, 173]
theorem u_rfl_doStatement_105 (v1 : Int) (u0 : Int) (m : mR) : RP (rfl_doStatement_105 v1 u0 m) (fun z : Int × mR => fr F_rfl_doStatement_105 A_rfl_doStatement_105 m z.2) := by
  unfold rfl_doStatement_105
  refine RP_bnd (u_rf_worth ((m.2 107) v1) ((m.2 108) v1) m) (fun y9 h1 => ?_)
  have h2 : fr F_rfl_doStatement_105 A_rfl_doStatement_105 m y9.2 := (fr_s h1 fr_0 rfl rfl)
  exact RP_w (u_rfl_doStatement_127 u0 y9.1 y9.2) (fun z hz => (fr_s hz h2 rfl rfl))
def F_rfl_doStatement_93 : List Nat := []
def A_rfl_doStatement_93 : List Nat := [171, 172]
theorem u_rfl_doStatement_93 (u1 : Int) (u3 : Int) (m : mR) : RP (rfl_doStatement_93 u1 u3 m) (fun z : Int × mR => fr F_rfl_doStatement_93 A_rfl_doStatement_93 m z.2) := by
  unfold rfl_doStatement_93
  refine RP_bnd (u_rf_put u1 ((m.2 138) u3) m) (fun y12 h1 => ?_)
  have h2 : fr F_rfl_doStatement_93 A_rfl_doStatement_93 m y12.2 := (fr_s h1 fr_0 rfl rfl)
  exact RP_some h2
def F_rfl_doStatement_71 : List Nat := []
def A_rfl_doStatement_71 : List Nat := [171, 172]
theorem u_rfl_doStatement_71 (u1 : Int) (u2 : Int) (m : mR) : RP (rfl_doStatement_71 u1 u2 m) (fun z : Int × mR => fr F_rfl_doStatement_71 A_rfl_doStatement_71 m z.2) := by
  unfold rfl_doStatement_71
  refine RP_bnd (u_rf_put u1 u2 m) (fun y15 h1 => ?_)
  have h2 : fr F_rfl_doStatement_71 A_rfl_doStatement_71 m y15.2 := (fr_s h1 fr_0 rfl rfl)
  exact RP_some h2
theorem u_rf_doStatement (v1 : Int) (m : mR) : RP (rf_doStatement v1 m) (fun z : Int × mR => fr rF_doStatement rA_doStatement m z.2) := by
  unfold rf_doStatement
  refine RP_ite (fun h1 => ?_) (fun h1 => ?_)
  · skip
    refine RP_bnd (u_rf_worth ((m.2 107) v1) ((m.2 108) v1) m) (fun y19 h2 => ?_)
    have h3 : fr rF_doStatement rA_doStatement m y19.2 := (fr_s h2 fr_0 rfl rfl)
    exact RP_w (u_rfl_doStatement_71 ((m.2 102) v1) y19.1 y19.2) (fun z hz => (fr_s hz h3 rfl rfl))
  · skip
    refine RP_ite (fun h4 => ?_) (fun h4 => ?_)
    · skip
      exact RP_some (fr_m fr_0 rfl rfl)
    · skip
      refine RP_ite (fun h5 => ?_) (fun h5 => ?_)
      · skip
        refine RP_bnd (u_rf_wordAt v1 m) (fun y24 h6 => ?_)
        have h7 : fr rF_doStatement rA_doStatement m y24.2 := (fr_s h6 fr_0 rfl rfl)
        exact RP_w (u_rfl_doStatement_93 ((m.2 102) v1) y24.1 y24.2) (fun z hz => (fr_s hz h7 rfl rfl))
      · skip
        refine RP_ite (fun h8 => ?_) (fun h8 => ?_)
        · skip
          refine RP_bnd (u_rf_wordAt v1 m) (fun y28 h9 => ?_)
          have h10 : fr rF_doStatement rA_doStatement m y28.2 := (fr_s h9 fr_0 rfl rfl)
          exact RP_w (u_rfl_doStatement_105 v1 y28.1 y28.2) (fun z hz => (fr_s hz h10 rfl rfl))
        · skip
          refine RP_ite (fun h11 => ?_) (fun h11 => ?_)
          · skip
            exact RP_w (u_rfl_doStatement_163 ((m.2 104) v1) 1 m) (fun z hz => (fr_s hz fr_0 rfl rfl))
          · skip
            exact RP_w (u_rfl_doStatement_163 ((m.2 104) v1) 0 m) (fun z hz => (fr_s hz fr_0 rfl rfl))
def rF_doTable : List Nat := [177]
def rA_doTable : List Nat := [138, 171, 172, 173, 174, 175, 178]
def F_rfl_doTable_270 : List Nat := []
def A_rfl_doTable_270 : List Nat := []
theorem u_rfl_doTable_270 (v3 : Int) (v4 : Int) (m : mR) : RP (rfl_doTable_270 v3 v4 m) (sel (fun z : (Int × mR) => fr F_rfl_doTable_270 A_rfl_doTable_270 m z.2) (fun z : mR => fr F_rfl_doTable_270 A_rfl_doTable_270 m z)) := by
  unfold rfl_doTable_270
  exact RP_some fr_0
def F_rfb_doTable_246 : List Nat := [177]
def A_rfb_doTable_246 : List Nat := [138, 171, 172, 173, 175]
theorem u_rfb_doTable_246 (v3 : Int) (s : Int × mR) : RP (rfb_doTable_246 v3 s) (sel (fun z : (Int × mR) => fr F_rfb_doTable_246 A_rfb_doTable_246 s.2 z.2) (fun z : mR => fr F_rfb_doTable_246 A_rfb_doTable_246 s.2 z)) := by
  unfold rfb_doTable_246
  refine RP_ite (fun h1 => ?_) (fun h1 => ?_)
  · skip
    exact RP_some fr_0
  · skip
    refine RP_bnd (u_rf_doStatement s.1 s.2) (fun y7 h2 => ?_)
    have h3 : fr F_rfb_doTable_246 A_rfb_doTable_246 s.2 y7.2 := (fr_s h2 fr_0 rfl rfl)
    exact RP_w (u_rfl_doTable_270 v3 s.1 y7.2) (sl_w (fun z hz => (fr_s hz h3 rfl rfl)) (fun z hz => (fr_s hz h3 rfl rfl)))
theorem uw_rfb_doTable_246 (v3 : Int) (s : Int × mR) : RP (whl (rfb_doTable_246 v3) s) (fun z : mR => fr F_rfb_doTable_246 A_rfb_doTable_246 s.2 z) := RP_whl (I := fun q : Int × mR => fr F_rfb_doTable_246 A_rfb_doTable_246 s.2 q.2) (fun q hq => RP_w (u_rfb_doTable_246 v3 q) (sl_w (fun z hz => (fr_s hz hq rfl rfl)) (fun z hz => (fr_s hz hq rfl rfl)))) fr_0
def F_rfl_doTable_238 : List Nat := [177]
def A_rfl_doTable_238 : List Nat := [138, 171, 172, 173, 175]
theorem u_rfl_doTable_238 (v3 : Int) (m : mR) : RP (rfl_doTable_238 v3 m) (fun z : Int × mR => fr F_rfl_doTable_238 A_rfl_doTable_238 m z.2) := by
  unfold rfl_doTable_238
  refine RP_bnd (uw_rfb_doTable_246 v3 ((m.2 109) v3, m)) (fun e10 h1 => ?_)
  have h2 : fr F_rfl_doTable_238 A_rfl_doTable_238 m e10 := (fr_s h1 fr_0 rfl rfl)
  exact RP_some h2
def F_rfl_doTable_231 : List Nat := []
def A_rfl_doTable_231 : List Nat := [174]
theorem u_rfl_doTable_231 (v1 : Int) (v2 : Int) (v3 : Int) (v4 : Int) (u1 : Int) (u2 : Int) (m : mR) : RP (rfl_doTable_231 v1 v2 v3 v4 u1 u2 m) (sel (fun z : (Int × mR) => fr F_rfl_doTable_231 A_rfl_doTable_231 m z.2) (fun z : mR => fr F_rfl_doTable_231 A_rfl_doTable_231 m z)) := by
  unfold rfl_doTable_231
  exact RP_some (fr_m fr_0 rfl rfl)
def F_rfb_doTable_185 : List Nat := []
def A_rfb_doTable_185 : List Nat := [174]
theorem u_rfb_doTable_185 (v1 : Int) (v2 : Int) (v3 : Int) (s : Int × mR) : RP (rfb_doTable_185 v1 v2 v3 s) (sel (fun z : (Int × mR) => fr F_rfb_doTable_185 A_rfb_doTable_185 s.2 z.2) (fun z : mR => fr F_rfb_doTable_185 A_rfb_doTable_185 s.2 z)) := by
  unfold rfb_doTable_185
  refine RP_ite (fun h1 => ?_) (fun h1 => ?_)
  · skip
    exact RP_some fr_0
  · skip
    refine RP_ite (fun h2 => ?_) (fun h2 => ?_)
    · skip
      refine RP_bndT (fun y16 => ?_)
      exact RP_w (u_rfl_doTable_231 v1 v2 v3 s.1 s.1 ((s.2.2 144) (cut ((cut (4 * y16)) + s.1))) s.2) (sl_w (fun z hz => (fr_s hz fr_0 rfl rfl)) (fun z hz => (fr_s hz fr_0 rfl rfl)))
    · skip
      exact RP_w (u_rfl_doTable_231 v1 v2 v3 s.1 s.1 ((s.2.2 115) (cut ((cut (4 * v1)) + s.1))) s.2) (sl_w (fun z hz => (fr_s hz fr_0 rfl rfl)) (fun z hz => (fr_s hz fr_0 rfl rfl)))
theorem uw_rfb_doTable_185 (v1 : Int) (v2 : Int) (v3 : Int) (s : Int × mR) : RP (whl (rfb_doTable_185 v1 v2 v3) s) (fun z : mR => fr F_rfb_doTable_185 A_rfb_doTable_185 s.2 z) := RP_whl (I := fun q : Int × mR => fr F_rfb_doTable_185 A_rfb_doTable_185 s.2 q.2) (fun q hq => RP_w (u_rfb_doTable_185 v1 v2 v3 q) (sl_w (fun z hz => (fr_s hz hq rfl rfl)) (fun z hz => (fr_s hz hq rfl rfl)))) fr_0
def F_rfl_doTable_181 : List Nat := [177]
def A_rfl_doTable_181 : List Nat := [138, 171, 172, 173, 174, 175]
theorem u_rfl_doTable_181 (v1 : Int) (v2 : Int) (u0 : Int) (m : mR) : RP (rfl_doTable_181 v1 v2 u0 m) (fun z : Int × mR => fr F_rfl_doTable_181 A_rfl_doTable_181 m z.2) := by
  unfold rfl_doTable_181
  refine RP_bnd (uw_rfb_doTable_185 v1 v2 u0 (0, m)) (fun e18 h1 => ?_)
  have h2 : fr F_rfl_doTable_181 A_rfl_doTable_181 m e18 := (fr_s h1 fr_0 rfl rfl)
  exact RP_w (u_rfl_doTable_238 u0 e18) (fun z hz => (fr_s hz h2 rfl rfl))
def F_rfl_doTable_157 : List Nat := [177]
def A_rfl_doTable_157 : List Nat := [138, 171, 172, 173, 174, 175]
theorem u_rfl_doTable_157 (v1 : Int) (v2 : Int) (m : mR) : RP (rfl_doTable_157 v1 v2 m) (fun z : Int × mR => fr F_rfl_doTable_157 A_rfl_doTable_157 m z.2) := by
  unfold rfl_doTable_157
  refine RP_ite (fun h1 => ?_) (fun h1 => ?_)
  · skip
    refine RP_bndT (fun y22 => ?_)
    exact RP_w (u_rfl_doTable_181 v1 v2 ((m.2 141) y22) m) (fun z hz => (fr_s hz fr_0 rfl rfl))
  · skip
    exact RP_w (u_rfl_doTable_181 v1 v2 ((m.2 57) v1) m) (fun z hz => (fr_s hz fr_0 rfl rfl))
def F_rfl_doTable_48 : List Nat := [177]
def A_rfl_doTable_48 : List Nat := [138, 171, 172, 173, 174, 175]
theorem u_rfl_doTable_48 (v1 : Int) (m : mR) : RP (rfl_doTable_48 v1 m) (fun z : Int × mR => fr F_rfl_doTable_48 A_rfl_doTable_48 m z.2) := by
  unfold rfl_doTable_48
  refine RP_bndT (fun e46 => ?_)
  exact RP_w (u_rfl_doTable_157 v1 e46 m) (fun z hz => (fr_s hz fr_0 rfl rfl))
def F_rfl_doTable_41 : List Nat := []
def A_rfl_doTable_41 : List Nat := [178]
theorem u_rfl_doTable_41 (v1 : Int) (v2 : Int) (u1 : Int) (u2 : Int) (m : mR) : RP (rfl_doTable_41 v1 v2 u1 u2 m) (sel (fun z : (Int × mR) => fr F_rfl_doTable_41 A_rfl_doTable_41 m z.2) (fun z : mR => fr F_rfl_doTable_41 A_rfl_doTable_41 m z)) := by
  unfold rfl_doTable_41
  exact RP_some (fr_m fr_0 rfl rfl)
def F_rfb_doTable_2 : List Nat := []
def A_rfb_doTable_2 : List Nat := [173, 178]
theorem u_rfb_doTable_2 (v1 : Int) (s : Int × mR) : RP (rfb_doTable_2 v1 s) (sel (fun z : (Int × mR) => fr F_rfb_doTable_2 A_rfb_doTable_2 s.2 z.2) (fun z : mR => fr F_rfb_doTable_2 A_rfb_doTable_2 s.2 z)) := by
  unfold rfb_doTable_2
  refine RP_ite (fun h1 => ?_) (fun h1 => ?_)
  · skip
    exact RP_some fr_0
  · skip
    refine RP_bnd (u_rf_worth ((s.2.2 110) (cut ((cut (4 * v1)) + s.1))) ((s.2.2 111) (cut ((cut (4 * v1)) + s.1))) s.2) (fun y51 h2 => ?_)
    have h3 : fr F_rfb_doTable_2 A_rfb_doTable_2 s.2 y51.2 := (fr_s h2 fr_0 rfl rfl)
    exact RP_w (u_rfl_doTable_41 v1 s.1 s.1 y51.1 y51.2) (sl_w (fun z hz => (fr_s hz h3 rfl rfl)) (fun z hz => (fr_s hz h3 rfl rfl)))
theorem uw_rfb_doTable_2 (v1 : Int) (s : Int × mR) : RP (whl (rfb_doTable_2 v1) s) (fun z : mR => fr F_rfb_doTable_2 A_rfb_doTable_2 s.2 z) := RP_whl (I := fun q : Int × mR => fr F_rfb_doTable_2 A_rfb_doTable_2 s.2 q.2) (fun q hq => RP_w (u_rfb_doTable_2 v1 q) (sl_w (fun z hz => (fr_s hz hq rfl rfl)) (fun z hz => (fr_s hz hq rfl rfl)))) fr_0
theorem u_rf_doTable (v1 : Int) (m : mR) : RP (rf_doTable v1 m) (fun z : Int × mR => fr rF_doTable rA_doTable m z.2) := by
  unfold rf_doTable
  refine RP_bnd (uw_rfb_doTable_2 v1 (0, m)) (fun e54 h1 => ?_)
  have h2 : fr rF_doTable rA_doTable m e54 := (fr_s h1 fr_0 rfl rfl)
  exact RP_w (u_rfl_doTable_48 v1 e54) (fun z hz => (fr_s hz h2 rfl rfl))
def rF_goThrough : List Nat := [177]
def rA_goThrough : List Nat := [138, 169, 171, 172, 173, 174, 175, 178]
def F_rfl_goThrough_126 : List Nat := []
def A_rfl_goThrough_126 : List Nat := []
theorem u_rfl_goThrough_126 (v1 : Int) (v2 : Int) (m : mR) : RP (rfl_goThrough_126 v1 v2 m) (sel (fun z : (Int × mR) => fr F_rfl_goThrough_126 A_rfl_goThrough_126 m z.2) (fun z : mR => fr F_rfl_goThrough_126 A_rfl_goThrough_126 m z)) := by
  unfold rfl_goThrough_126
  exact RP_some fr_0
def F_rfl_goThrough_113 : List Nat := []
def A_rfl_goThrough_113 : List Nat := [169]
theorem u_rfl_goThrough_113 (v1 : Int) (v2 : Int) (v4 : Int) (m : mR) : RP (rfl_goThrough_113 v1 v2 v4 m) (sel (fun z : (Int × mR) => fr F_rfl_goThrough_113 A_rfl_goThrough_113 m z.2) (fun z : mR => fr F_rfl_goThrough_113 A_rfl_goThrough_113 m z)) := by
  unfold rfl_goThrough_113
  exact RP_w (u_rfl_goThrough_126 v1 v2 (mO m [] [(169, upI (m.2 169) (cut ((cut (48 * v1)) + v2)) v4)])) (sl_w (fun z hz => (fr_s hz (fr_m fr_0 rfl rfl) rfl rfl)) (fun z hz => (fr_s hz (fr_m fr_0 rfl rfl) rfl rfl)))
def F_rfl_goThrough_111 : List Nat := []
def A_rfl_goThrough_111 : List Nat := [169]
theorem u_rfl_goThrough_111 (v1 : Int) (v2 : Int) (u0 : Int) (m : mR) : RP (rfl_goThrough_111 v1 v2 u0 m) (sel (fun z : (Int × mR) => fr F_rfl_goThrough_111 A_rfl_goThrough_111 m z.2) (fun z : mR => fr F_rfl_goThrough_111 A_rfl_goThrough_111 m z)) := by
  unfold rfl_goThrough_111
  exact RP_w (u_rfl_goThrough_113 v1 v2 u0 m) (sl_w (fun z hz => (fr_s hz fr_0 rfl rfl)) (fun z hz => (fr_s hz fr_0 rfl rfl)))
def F_rfl_goThrough_95 : List Nat := []
def A_rfl_goThrough_95 : List Nat := [169]
theorem u_rfl_goThrough_95 (v1 : Int) (v2 : Int) (u0 : Int) (m : mR) : RP (rfl_goThrough_95 v1 v2 u0 m) (sel (fun z : (Int × mR) => fr F_rfl_goThrough_95 A_rfl_goThrough_95 m z.2) (fun z : mR => fr F_rfl_goThrough_95 A_rfl_goThrough_95 m z)) := by
  unfold rfl_goThrough_95
  exact RP_w (u_rfl_goThrough_113 v1 v2 (cut u0) m) (sl_w (fun z hz => (fr_s hz fr_0 rfl rfl)) (fun z hz => (fr_s hz fr_0 rfl rfl)))
def F_rfl_goThrough_44 : List Nat := [177]
def A_rfl_goThrough_44 : List Nat := [138, 169, 171, 172, 173, 174, 175, 178]
theorem u_rfl_goThrough_44 (v1 : Int) (v2 : Int) (m : mR) : RP (rfl_goThrough_44 v1 v2 m) (sel (fun z : (Int × mR) => fr F_rfl_goThrough_44 A_rfl_goThrough_44 m z.2) (fun z : mR => fr F_rfl_goThrough_44 A_rfl_goThrough_44 m z)) := by
  unfold rfl_goThrough_44
  refine RP_ite (fun h1 => ?_) (fun h1 => ?_)
  · skip
    refine RP_bnd (u_rf_doStatement ((m.2 120) v2) m) (fun y10 h2 => ?_)
    have h3 : fr F_rfl_goThrough_44 A_rfl_goThrough_44 m y10.2 := (fr_s h2 fr_0 rfl rfl)
    exact RP_w (u_rfl_goThrough_113 v1 v2 0 y10.2) (sl_w (fun z hz => (fr_s hz h3 rfl rfl)) (fun z hz => (fr_s hz h3 rfl rfl)))
  · skip
    refine RP_ite (fun h4 => ?_) (fun h4 => ?_)
    · skip
      refine RP_bnd (u_rf_worth ((m.2 121) v2) ((m.2 122) v2) m) (fun y7 h5 => ?_)
      have h6 : fr F_rfl_goThrough_44 A_rfl_goThrough_44 m y7.2 := (fr_s h5 fr_0 rfl rfl)
      exact RP_w (u_rfl_goThrough_95 v1 v2 y7.1 y7.2) (sl_w (fun z hz => (fr_s hz h6 rfl rfl)) (fun z hz => (fr_s hz h6 rfl rfl)))
    · skip
      refine RP_bnd (u_rf_doTable ((m.2 63) v2) m) (fun y4 h7 => ?_)
      have h8 : fr F_rfl_goThrough_44 A_rfl_goThrough_44 m y4.2 := (fr_s h7 fr_0 rfl rfl)
      exact RP_w (u_rfl_goThrough_111 v1 v2 y4.1 y4.2) (sl_w (fun z hz => (fr_s hz h8 rfl rfl)) (fun z hz => (fr_s hz h8 rfl rfl)))
def F_rfb_goThrough_2 : List Nat := [177]
def A_rfb_goThrough_2 : List Nat := [138, 169, 171, 172, 173, 174, 175, 178]
theorem u_rfb_goThrough_2 (v1 : Int) (s : Int × mR) : RP (rfb_goThrough_2 v1 s) (sel (fun z : (Int × mR) => fr F_rfb_goThrough_2 A_rfb_goThrough_2 s.2 z.2) (fun z : mR => fr F_rfb_goThrough_2 A_rfb_goThrough_2 s.2 z)) := by
  unfold rfb_goThrough_2
  refine RP_ite (fun h1 => ?_) (fun h1 => ?_)
  · skip
    exact RP_some fr_0
  · skip
    refine RP_ite (fun h2 => ?_) (fun h2 => ?_)
    · skip
      exact RP_w (u_rfl_goThrough_44 v1 s.1 s.2) (sl_w (fun z hz => (fr_s hz fr_0 rfl rfl)) (fun z hz => (fr_s hz fr_0 rfl rfl)))
    · skip
      refine RP_ite (fun h3 => ?_) (fun h3 => ?_)
      · skip
        exact RP_w (u_rfl_goThrough_44 v1 s.1 s.2) (sl_w (fun z hz => (fr_s hz fr_0 rfl rfl)) (fun z hz => (fr_s hz fr_0 rfl rfl)))
      · skip
        exact RP_w (u_rfl_goThrough_126 v1 s.1 s.2) (sl_w (fun z hz => (fr_s hz fr_0 rfl rfl)) (fun z hz => (fr_s hz fr_0 rfl rfl)))
theorem uw_rfb_goThrough_2 (v1 : Int) (s : Int × mR) : RP (whl (rfb_goThrough_2 v1) s) (fun z : mR => fr F_rfb_goThrough_2 A_rfb_goThrough_2 s.2 z) := RP_whl (I := fun q : Int × mR => fr F_rfb_goThrough_2 A_rfb_goThrough_2 s.2 q.2) (fun q hq => RP_w (u_rfb_goThrough_2 v1 q) (sl_w (fun z hz => (fr_s hz hq rfl rfl)) (fun z hz => (fr_s hz hq rfl rfl)))) fr_0
theorem u_rf_goThrough (v1 : Int) (m : mR) : RP (rf_goThrough v1 m) (fun z : Int × mR => fr rF_goThrough rA_goThrough m z.2) := by
  unfold rf_goThrough
  refine RP_bnd (uw_rfb_goThrough_2 v1 (0, m)) (fun e17 h1 => ?_)
  have h2 : fr rF_goThrough rA_goThrough m e17 := (fr_s h1 fr_0 rfl rfl)
  exact RP_some h2
def rF_writePacket : List Nat := []
def rA_writePacket : List Nat := [165, 166, 168]
def F_rfl_writePacket_231 : List Nat := []
def A_rfl_writePacket_231 : List Nat := [165, 166]
theorem u_rfl_writePacket_231 (v1 : Int) (v4 : Int) (m : mR) : RP (rfl_writePacket_231 v1 v4 m) (fun z : Int × mR => fr F_rfl_writePacket_231 A_rfl_writePacket_231 m z.2) := by
  unfold rfl_writePacket_231
  exact RP_some (fr_m fr_0 rfl rfl)
def F_rfb_writePacket_195 : List Nat := []
def A_rfb_writePacket_195 : List Nat := [168]
theorem u_rfb_writePacket_195 (v1 : Int) (v3 : Int) (s : Int × Int × mR) : RP (rfb_writePacket_195 v1 v3 s) (sel (fun z : (Int × Int × mR) => fr F_rfb_writePacket_195 A_rfb_writePacket_195 s.2.2 z.2.2) (fun z : Int × mR => fr F_rfb_writePacket_195 A_rfb_writePacket_195 s.2.2 z.2)) := by
  unfold rfb_writePacket_195
  refine RP_ite (fun h1 => ?_) (fun h1 => ?_)
  · skip
    exact RP_some fr_0
  · skip
    exact RP_some (fr_m fr_0 rfl rfl)
theorem uw_rfb_writePacket_195 (v1 : Int) (v3 : Int) (s : Int × Int × mR) : RP (whl (rfb_writePacket_195 v1 v3) s) (fun z : Int × mR => fr F_rfb_writePacket_195 A_rfb_writePacket_195 s.2.2 z.2) := RP_whl (I := fun q : Int × Int × mR => fr F_rfb_writePacket_195 A_rfb_writePacket_195 s.2.2 q.2.2) (fun q hq => RP_w (u_rfb_writePacket_195 v1 v3 q) (sl_w (fun z hz => (fr_s hz hq rfl rfl)) (fun z hz => (fr_s hz hq rfl rfl)))) fr_0
def F_rfl_writePacket_183 : List Nat := []
def A_rfl_writePacket_183 : List Nat := [165, 166, 168]
theorem u_rfl_writePacket_183 (v1 : Int) (v2 : Int) (v3 : Int) (m : mR) : RP (rfl_writePacket_183 v1 v2 v3 m) (fun z : Int × mR => fr F_rfl_writePacket_183 A_rfl_writePacket_183 m z.2) := by
  unfold rfl_writePacket_183
  refine RP_bnd (uw_rfb_writePacket_195 v1 v3 (v2.tdiv 8, m.1 176, m)) (fun e13 h1 => ?_)
  have h2 : fr F_rfl_writePacket_183 A_rfl_writePacket_183 m e13.2 := (fr_s h1 fr_0 rfl rfl)
  exact RP_w (u_rfl_writePacket_231 v1 e13.1 e13.2) (fun z hz => (fr_s hz h2 rfl rfl))
def F_rfl_writePacket_177 : List Nat := []
def A_rfl_writePacket_177 : List Nat := []
theorem u_rfl_writePacket_177 (v1 : Int) (v2 : Int) (v3 : Int) (v4 : Int) (m : mR) : RP (rfl_writePacket_177 v1 v2 v3 v4 m) (sel (fun z : (Int × Int × mR) => fr F_rfl_writePacket_177 A_rfl_writePacket_177 m z.2.2) (fun z : Int × mR => fr F_rfl_writePacket_177 A_rfl_writePacket_177 m z.2)) := by
  unfold rfl_writePacket_177
  exact RP_some fr_0
def F_rfl_writePacket_171 : List Nat := []
def A_rfl_writePacket_171 : List Nat := []
theorem u_rfl_writePacket_171 (v1 : Int) (v2 : Int) (v3 : Int) (v4 : Int) (v5 : Int) (v6 : Int) (v7 : Int) (m : mR) : RP (rfl_writePacket_171 v1 v2 v3 v4 v5 v6 v7 m) (sel (fun z : (Int × Int × mR) => fr F_rfl_writePacket_171 A_rfl_writePacket_171 m z.2.2) (fun z : Int × mR => fr F_rfl_writePacket_171 A_rfl_writePacket_171 m z.2)) := by
  unfold rfl_writePacket_171
  exact RP_some fr_0
def F_rfb_writePacket_107 : List Nat := []
def A_rfb_writePacket_107 : List Nat := [168]
theorem u_rfb_writePacket_107 (v1 : Int) (v3 : Int) (v4 : Int) (v5 : Int) (v6 : Int) (v7 : Int) (s : Int × Int × mR) : RP (rfb_writePacket_107 v1 v3 v4 v5 v6 v7 s) (sel (fun z : (Int × Int × mR) => fr F_rfb_writePacket_107 A_rfb_writePacket_107 s.2.2 z.2.2) (fun z : Int × mR => fr F_rfb_writePacket_107 A_rfb_writePacket_107 s.2.2 z.2)) := by
  unfold rfb_writePacket_107
  refine RP_ite (fun h1 => ?_) (fun h1 => ?_)
  · skip
    exact RP_some fr_0
  · skip
    exact RP_some (fr_m fr_0 rfl rfl)
theorem uw_rfb_writePacket_107 (v1 : Int) (v3 : Int) (v4 : Int) (v5 : Int) (v6 : Int) (v7 : Int) (s : Int × Int × mR) : RP (whl (rfb_writePacket_107 v1 v3 v4 v5 v6 v7) s) (fun z : Int × mR => fr F_rfb_writePacket_107 A_rfb_writePacket_107 s.2.2 z.2) := RP_whl (I := fun q : Int × Int × mR => fr F_rfb_writePacket_107 A_rfb_writePacket_107 s.2.2 q.2.2) (fun q hq => RP_w (u_rfb_writePacket_107 v1 v3 v4 v5 v6 v7 q) (sl_w (fun z hz => (fr_s hz hq rfl rfl)) (fun z hz => (fr_s hz hq rfl rfl)))) fr_0
def F_rfb_writePacket_68 : List Nat := []
def A_rfb_writePacket_68 : List Nat := [168]
theorem u_rfb_writePacket_68 (v1 : Int) (v3 : Int) (v4 : Int) (v5 : Int) (v6 : Int) (s : Int × Int × mR) : RP (rfb_writePacket_68 v1 v3 v4 v5 v6 s) (sel (fun z : (Int × Int × mR) => fr F_rfb_writePacket_68 A_rfb_writePacket_68 s.2.2 z.2.2) (fun z : Int × mR => fr F_rfb_writePacket_68 A_rfb_writePacket_68 s.2.2 z.2)) := by
  unfold rfb_writePacket_68
  refine RP_ite (fun h1 => ?_) (fun h1 => ?_)
  · skip
    exact RP_some fr_0
  · skip
    refine RP_ite (fun h2 => ?_) (fun h2 => ?_)
    · skip
      exact RP_some fr_0
    · skip
      refine RP_bnd (uw_rfb_writePacket_107 v1 v3 v4 v5 v6 s.2.1 (s.1, cut (((s.2.2.2 33) (cut ((cut (16 * v6)) + s.2.1))) - 1), s.2.2)) (fun e24 h3 => ?_)
      have h4 : fr F_rfb_writePacket_68 A_rfb_writePacket_68 s.2.2 e24.2 := (fr_s h3 fr_0 rfl rfl)
      exact RP_w (u_rfl_writePacket_171 v1 e24.1 v3 v4 v5 v6 s.2.1 e24.2) (sl_w (fun z hz => (fr_s hz h4 rfl rfl)) (fun z hz => (fr_s hz h4 rfl rfl)))
theorem uw_rfb_writePacket_68 (v1 : Int) (v3 : Int) (v4 : Int) (v5 : Int) (v6 : Int) (s : Int × Int × mR) : RP (whl (rfb_writePacket_68 v1 v3 v4 v5 v6) s) (fun z : Int × mR => fr F_rfb_writePacket_68 A_rfb_writePacket_68 s.2.2 z.2) := RP_whl (I := fun q : Int × Int × mR => fr F_rfb_writePacket_68 A_rfb_writePacket_68 s.2.2 q.2.2) (fun q hq => RP_w (u_rfb_writePacket_68 v1 v3 v4 v5 v6 q) (sl_w (fun z hz => (fr_s hz hq rfl rfl)) (fun z hz => (fr_s hz hq rfl rfl)))) fr_0
def F_rfb_writePacket_38 : List Nat := []
def A_rfb_writePacket_38 : List Nat := [168]
theorem u_rfb_writePacket_38 (v1 : Int) (v3 : Int) (s : Int × Int × mR) : RP (rfb_writePacket_38 v1 v3 s) (sel (fun z : (Int × Int × mR) => fr F_rfb_writePacket_38 A_rfb_writePacket_38 s.2.2 z.2.2) (fun z : Int × mR => fr F_rfb_writePacket_38 A_rfb_writePacket_38 s.2.2 z.2)) := by
  unfold rfb_writePacket_38
  refine RP_ite (fun h1 => ?_) (fun h1 => ?_)
  · skip
    exact RP_some fr_0
  · skip
    refine RP_bnd (uw_rfb_writePacket_68 v1 v3 s.2.1 ((s.2.2.2 124) s.2.1) ((s.2.2.2 34) ((s.2.2.2 124) s.2.1)) (s.1, 0, s.2.2)) (fun e31 h2 => ?_)
    have h3 : fr F_rfb_writePacket_38 A_rfb_writePacket_38 s.2.2 e31.2 := (fr_s h2 fr_0 rfl rfl)
    exact RP_w (u_rfl_writePacket_177 v1 e31.1 v3 s.2.1 e31.2) (sl_w (fun z hz => (fr_s hz h3 rfl rfl)) (fun z hz => (fr_s hz h3 rfl rfl)))
theorem uw_rfb_writePacket_38 (v1 : Int) (v3 : Int) (s : Int × Int × mR) : RP (whl (rfb_writePacket_38 v1 v3) s) (fun z : Int × mR => fr F_rfb_writePacket_38 A_rfb_writePacket_38 s.2.2 z.2) := RP_whl (I := fun q : Int × Int × mR => fr F_rfb_writePacket_38 A_rfb_writePacket_38 s.2.2 q.2.2) (fun q hq => RP_w (u_rfb_writePacket_38 v1 v3 q) (sl_w (fun z hz => (fr_s hz hq rfl rfl)) (fun z hz => (fr_s hz hq rfl rfl)))) fr_0
def F_rfl_writePacket_35 : List Nat := []
def A_rfl_writePacket_35 : List Nat := [165, 166, 168]
theorem u_rfl_writePacket_35 (v1 : Int) (v2 : Int) (v3 : Int) (m : mR) : RP (rfl_writePacket_35 v1 v2 v3 m) (fun z : Int × mR => fr F_rfl_writePacket_35 A_rfl_writePacket_35 m z.2) := by
  unfold rfl_writePacket_35
  refine RP_bnd (uw_rfb_writePacket_38 v1 v3 (v2, 0, m)) (fun e35 h1 => ?_)
  have h2 : fr F_rfl_writePacket_35 A_rfl_writePacket_35 m e35.2 := (fr_s h1 fr_0 rfl rfl)
  exact RP_w (u_rfl_writePacket_183 v1 e35.1 v3 e35.2) (fun z hz => (fr_s hz h2 rfl rfl))
def F_rfb_writePacket_11 : List Nat := []
def A_rfb_writePacket_11 : List Nat := [168]
theorem u_rfb_writePacket_11 (v1 : Int) (v2 : Int) (v3 : Int) (s : Int × mR) : RP (rfb_writePacket_11 v1 v2 v3 s) (sel (fun z : (Int × mR) => fr F_rfb_writePacket_11 A_rfb_writePacket_11 s.2 z.2) (fun z : mR => fr F_rfb_writePacket_11 A_rfb_writePacket_11 s.2 z)) := by
  unfold rfb_writePacket_11
  refine RP_ite (fun h1 => ?_) (fun h1 => ?_)
  · skip
    exact RP_some fr_0
  · skip
    exact RP_some (fr_m fr_0 rfl rfl)
theorem uw_rfb_writePacket_11 (v1 : Int) (v2 : Int) (v3 : Int) (s : Int × mR) : RP (whl (rfb_writePacket_11 v1 v2 v3) s) (fun z : mR => fr F_rfb_writePacket_11 A_rfb_writePacket_11 s.2 z) := RP_whl (I := fun q : Int × mR => fr F_rfb_writePacket_11 A_rfb_writePacket_11 s.2 q.2) (fun q hq => RP_w (u_rfb_writePacket_11 v1 v2 v3 q) (sl_w (fun z hz => (fr_s hz hq rfl rfl)) (fun z hz => (fr_s hz hq rfl rfl)))) fr_0
theorem u_rf_writePacket (v1 : Int) (m : mR) : RP (rf_writePacket v1 m) (fun z : Int × mR => fr rF_writePacket rA_writePacket m z.2) := by
  unfold rf_writePacket
  refine RP_bnd (uw_rfb_writePacket_11 v1 0 (cut (896 * v1)) (0, m)) (fun e41 h1 => ?_)
  have h2 : fr rF_writePacket rA_writePacket m e41 := (fr_s h1 fr_0 rfl rfl)
  exact RP_w (u_rfl_writePacket_35 v1 0 (cut (896 * v1)) e41) (fun z hz => (fr_s hz h2 rfl rfl))
def rF_moveDown : List Nat := []
def rA_moveDown : List Nat := [153, 154, 155, 156, 157, 158, 159, 160, 161, 162]
def F_rfb_moveDown_129 : List Nat := []
def A_rfb_moveDown_129 : List Nat := [160, 161, 162]
theorem u_rfb_moveDown_129 (v1 : Int) (s : Int × mR) : RP (rfb_moveDown_129 v1 s) (sel (fun z : (Int × mR) => fr F_rfb_moveDown_129 A_rfb_moveDown_129 s.2 z.2) (fun z : mR => fr F_rfb_moveDown_129 A_rfb_moveDown_129 s.2 z)) := by
  unfold rfb_moveDown_129
  refine RP_ite (fun h1 => ?_) (fun h1 => ?_)
  · skip
    exact RP_some fr_0
  · skip
    exact RP_some (fr_m fr_0 rfl rfl)
theorem uw_rfb_moveDown_129 (v1 : Int) (s : Int × mR) : RP (whl (rfb_moveDown_129 v1) s) (fun z : mR => fr F_rfb_moveDown_129 A_rfb_moveDown_129 s.2 z) := RP_whl (I := fun q : Int × mR => fr F_rfb_moveDown_129 A_rfb_moveDown_129 s.2 q.2) (fun q hq => RP_w (u_rfb_moveDown_129 v1 q) (sl_w (fun z hz => (fr_s hz hq rfl rfl)) (fun z hz => (fr_s hz hq rfl rfl)))) fr_0
def F_rfl_moveDown_83 : List Nat := []
def A_rfl_moveDown_83 : List Nat := [156, 157, 158, 160, 161, 162]
theorem u_rfl_moveDown_83 (v1 : Int) (m : mR) : RP (rfl_moveDown_83 v1 m) (fun z : Int × mR => fr F_rfl_moveDown_83 A_rfl_moveDown_83 m z.2) := by
  unfold rfl_moveDown_83
  refine RP_bnd (uw_rfb_moveDown_129 v1 (cut (4 * v1), (mO m [] [(156, upI (m.2 156) v1 ((m.2 156) (cut (v1 + 1)))), (157, upI (m.2 157) v1 ((m.2 157) (cut (v1 + 1)))), (158, upI (m.2 158) v1 ((m.2 158) (cut (v1 + 1))))]))) (fun e5 h1 => ?_)
  have h2 : fr F_rfl_moveDown_83 A_rfl_moveDown_83 m e5 := (fr_s h1 (fr_m fr_0 rfl rfl) rfl rfl)
  exact RP_some h2
def F_rfb_moveDown_48 : List Nat := []
def A_rfb_moveDown_48 : List Nat := [159]
theorem u_rfb_moveDown_48 (v1 : Int) (s : Int × mR) : RP (rfb_moveDown_48 v1 s) (sel (fun z : (Int × mR) => fr F_rfb_moveDown_48 A_rfb_moveDown_48 s.2 z.2) (fun z : mR => fr F_rfb_moveDown_48 A_rfb_moveDown_48 s.2 z)) := by
  unfold rfb_moveDown_48
  refine RP_ite (fun h1 => ?_) (fun h1 => ?_)
  · skip
    exact RP_some fr_0
  · skip
    exact RP_some (fr_m fr_0 rfl rfl)
theorem uw_rfb_moveDown_48 (v1 : Int) (s : Int × mR) : RP (whl (rfb_moveDown_48 v1) s) (fun z : mR => fr F_rfb_moveDown_48 A_rfb_moveDown_48 s.2 z) := RP_whl (I := fun q : Int × mR => fr F_rfb_moveDown_48 A_rfb_moveDown_48 s.2 q.2) (fun q hq => RP_w (u_rfb_moveDown_48 v1 q) (sl_w (fun z hz => (fr_s hz hq rfl rfl)) (fun z hz => (fr_s hz hq rfl rfl)))) fr_0
theorem u_rf_moveDown (v1 : Int) (m : mR) : RP (rf_moveDown v1 m) (fun z : Int × mR => fr rF_moveDown rA_moveDown m z.2) := by
  unfold rf_moveDown
  refine RP_bnd (uw_rfb_moveDown_48 v1 (cut (128 * v1), (mO m [] [(153, upI (m.2 153) v1 ((m.2 153) (cut (v1 + 1)))), (154, upI (m.2 154) v1 ((m.2 154) (cut (v1 + 1)))), (155, upI (m.2 155) v1 ((m.2 155) (cut (v1 + 1))))]))) (fun e10 h1 => ?_)
  have h2 : fr rF_moveDown rA_moveDown m e10 := (fr_s h1 (fr_m fr_0 rfl rfl) rfl rfl)
  exact RP_w (u_rfl_moveDown_83 v1 e10) (fun z hz => (fr_s hz h2 rfl rfl))
