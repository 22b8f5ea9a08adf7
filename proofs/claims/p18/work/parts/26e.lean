noncomputable section X26E
def rfl_takeName_150 (v1 : Int) (v4 : Int) (m : mR) : Option (Int × mR) :=
  bnd (rf_atom v4 v1 m) fun y1 =>
  some (0, y1.2)
theorem dg_takeName_150 (w : wX) (c : Nat → Option am_C) (N D : Nat) (bb : Nat) (v1 : Int) (v4 : Int) (q1 : R32 v1) (q4 : R32 v4) (m : mR) (hm : Cn m) (j : Nat → Int) : PP bb w D pm_251 (150, [(0, .ref 189), (1, .int (i32 v1)), (2, .int (i32 (j 2))), (3, .int (i32 (j 3))), (4, .int (i32 v4)), (5, .int (i32 (j 5))), (6, .int (i32 (j 6)))], [], (mhp m c, N), 0, 0) (QS (FR0 c N) (rfl_takeName_150 v1 v4 m)) := by
  unfold rfl_takeName_150
  show PP bb w D pm_251 (150, [(0, .ref 189), (1, .int (i32 v1)), (2, .int (i32 (j 2))), (3, .int (i32 (j 3))), (4, .int (i32 v4)), (5, .int (i32 (j 5))), (6, .int (i32 (j 6)))], [], (mhp (mO m [] []) c, N), 0, 0) _
  refine P_ld 151 (.ref 189) rfl (fun _ => rfl) ?_
  refine P_ld 153 (.int (i32 v4)) rfl (fun _ => rfl) ?_
  refine P_ld 154 (.int (i32 v1)) rfl (fun _ => rfl) ?_
  refine P_ca0 157 249 [.ref 189, .int (i32 v4), .int (i32 v1)] [] rfl (fun _ => rfl) rfl (D_atom w m c N D hm v4 v1 q4 q1) (fun y1 n3 => ?_)
  exact P_re0 rfl rfl n3
def rfl_takeName_139 (v1 : Int) (v4 : Int) (v5 : Int) (v6 : Int) (m : mR) : Option (Int × mR) :=
  bnd (rf_node v5 v4 v6 0 m) fun y4 =>
  rfl_takeName_150 v1 v4 y4.2
theorem dg_takeName_139 (w : wX) (c : Nat → Option am_C) (N D : Nat) (bb : Nat) (v1 : Int) (v4 : Int) (v5 : Int) (v6 : Int) (q1 : R32 v1) (q4 : R32 v4) (q5 : R32 v5) (q6 : R32 v6) (m : mR) (hm : Cn m) (j : Nat → Int) : PP bb w D pm_251 (139, [(0, .ref 189), (1, .int (i32 v1)), (2, .int (i32 (j 2))), (3, .int (i32 (j 3))), (4, .int (i32 v4)), (5, .int (i32 v5)), (6, .int (i32 v6))], [], (mhp m c, N), 0, 0) (QS (FR0 c N) (rfl_takeName_139 v1 v4 v5 v6 m)) := by
  unfold rfl_takeName_139
  show PP bb w D pm_251 (139, [(0, .ref 189), (1, .int (i32 v1)), (2, .int (i32 (j 2))), (3, .int (i32 (j 3))), (4, .int (i32 v4)), (5, .int (i32 v5)), (6, .int (i32 v6))], [], (mhp (mO m [] []) c, N), 0, 0) _
  refine P_ld 140 (.ref 189) rfl (fun _ => rfl) ?_
  refine P_ld 142 (.int (i32 v5)) rfl (fun _ => rfl) ?_
  refine P_ld 144 (.int (i32 v4)) rfl (fun _ => rfl) ?_
  refine P_ld 146 (.int (i32 v6)) rfl (fun _ => rfl) ?_
  refine P_ld 147 (.long (i64 0)) rfl (fun _ => rfl) ?_
  refine P_ca0 150 248 [.ref 189, .int (i32 v5), .int (i32 v4), .int (i32 v6), .long (i64 0)] [] rfl (fun _ => rfl) rfl (D_node w m c N D hm v5 v4 v6 0 q5 q4 q6 (l64 0 rfl)) (fun y4 n6 => ?_)
  exact dg_takeName_150 w c N D bb v1 v4 q1 q4 y4.2 n6 (jk [(2, j 2), (3, j 3), (5, v5), (6, v6)])
def rfl_takeName_109 (v1 : Int) (v4 : Int) (v5 : Int) (u0 : Int) (m : mR) : Option (Int × mR) :=
  if m.1 10 = 0 then
    bnd (rf_bitsOfField u0 m) fun y8 =>
    rfl_takeName_139 v1 y8 v5 u0 m
  else
    rfl_takeName_139 v1 v4 v5 u0 m
theorem dg_takeName_109 (w : wX) (c : Nat → Option am_C) (N D : Nat) (bb : Nat) (v1 : Int) (v4 : Int) (v5 : Int) (u0 : Int) (q1 : R32 v1) (q4 : R32 v4) (q5 : R32 v5) (r0 : R32 u0) (m : mR) (hm : Cn m) (j : Nat → Int) : PP bb w D pm_251 (109, [(0, .ref 189), (1, .int (i32 v1)), (2, .int (i32 (j 2))), (3, .int (i32 (j 3))), (4, .int (i32 v4)), (5, .int (i32 v5)), (6, .int (i32 (j 6)))], [.int (i32 u0)], (mhp m c, N), 0, 0) (QS (FR0 c N) (rfl_takeName_109 v1 v4 v5 u0 m)) := by
  unfold rfl_takeName_109
  show PP bb w D pm_251 (109, [(0, .ref 189), (1, .int (i32 v1)), (2, .int (i32 (j 2))), (3, .int (i32 (j 3))), (4, .int (i32 v4)), (5, .int (i32 v5)), (6, .int (i32 (j 6)))], [.int (i32 u0)], (mhp (mO m [] []) c, N), 0, 0) _
  refine P_sto 111 [(6, .int (i32 u0)), (0, .ref 189), (1, .int (i32 v1)), (2, .int (i32 (j 2))), (3, .int (i32 (j 3))), (4, .int (i32 v4)), (5, .int (i32 v5))] rfl (fun _ => rfl) ?_
  refine P_gf 115 (.int (i32 (m.1 10))) rfl rfl rfl rfl rfl rfl ?_
  refine P_ifE 139 118 rfl rfl rfl (Cn_i hm 10 rfl) rfl (fun h7 => ?_) (fun h7 => ?_)
  · skip
    refine P_ld 119 (.ref 189) rfl (fun _ => rfl) ?_
    refine P_ld 121 (.int (i32 u0)) rfl (fun _ => rfl) ?_
    refine P_cp1 124 254 [.ref 189, .int (i32 u0)] [] rfl (fun _ => rfl) rfl (D_bitsOfField w m c N D hm u0 r0) (fun y8 h9 => ?_)
    refine P_sto 126 [(4, .int (i32 y8)), (6, .int (i32 u0)), (0, .ref 189), (1, .int (i32 v1)), (2, .int (i32 (j 2))), (3, .int (i32 (j 3))), (5, .int (i32 v5))] rfl (fun _ => rfl) ?_
    refine P_goto 139 rfl (fun _ => rfl) ?_
    refine P_lv (b := [(0, .ref 189), (1, .int (i32 v1)), (2, .int (i32 (j 2))), (3, .int (i32 (j 3))), (4, .int (i32 y8)), (5, .int (i32 v5)), (6, .int (i32 u0))]) rfl rfl ⟨rfl, rfl, rfl, rfl, rfl, rfl, rfl, trivial⟩ ?_
    exact dg_takeName_139 w c N D bb v1 y8 v5 u0 q1 h9 q5 r0 m hm (jk [(2, j 2), (3, j 3)])
  · skip
    refine P_lv (b := [(0, .ref 189), (1, .int (i32 v1)), (2, .int (i32 (j 2))), (3, .int (i32 (j 3))), (4, .int (i32 v4)), (5, .int (i32 v5)), (6, .int (i32 u0))]) rfl rfl ⟨rfl, rfl, rfl, rfl, rfl, rfl, rfl, trivial⟩ ?_
    exact dg_takeName_139 w c N D bb v1 v4 v5 u0 q1 q4 q5 r0 m hm (jk [(2, j 2), (3, j 3)])
def rfl_takeName_103 (v1 : Int) (v4 : Int) (v5 : Int) (v6 : Int) (m : mR) : Option (Int × mR) :=
  bnd (rf_takeField v6 m) fun y10 =>
  rfl_takeName_109 v1 v4 v5 y10.1 y10.2
theorem dg_takeName_103 (w : wX) (c : Nat → Option am_C) (N D : Nat) (bb : Nat) (v1 : Int) (v4 : Int) (v5 : Int) (v6 : Int) (q1 : R32 v1) (q4 : R32 v4) (q5 : R32 v5) (q6 : R32 v6) (m : mR) (hm : Cn m) (j : Nat → Int) : PP bb w D pm_251 (103, [(0, .ref 189), (1, .int (i32 v1)), (2, .int (i32 (j 2))), (3, .int (i32 (j 3))), (4, .int (i32 v4)), (5, .int (i32 v5)), (6, .int (i32 v6))], [], (mhp m c, N), 0, 0) (QS (FR0 c N) (rfl_takeName_103 v1 v4 v5 v6 m)) := by
  unfold rfl_takeName_103
  show PP bb w D pm_251 (103, [(0, .ref 189), (1, .int (i32 v1)), (2, .int (i32 (j 2))), (3, .int (i32 (j 3))), (4, .int (i32 v4)), (5, .int (i32 v5)), (6, .int (i32 v6))], [], (mhp (mO m [] []) c, N), 0, 0) _
  refine P_ld 104 (.ref 189) rfl (fun _ => rfl) ?_
  refine P_ld 106 (.int (i32 v6)) rfl (fun _ => rfl) ?_
  refine P_ca1 109 253 [.ref 189, .int (i32 v6)] [] rfl (fun _ => rfl) rfl (D_takeField w m c N D hm v6 q6) (fun y10 h11 n12 => ?_)
  exact dg_takeName_109 w c N D bb v1 v4 v5 y10.1 q1 q4 q5 h11 y10.2 n12 (jk [(2, j 2), (3, j 3), (6, v6)])
def rfl_takeName_97 (v1 : Int) (v4 : Int) (v5 : Int) (v6 : Int) (m : mR) : Option (Int × mR) :=
  bnd (rf_need 46 m) fun y13 =>
  rfl_takeName_103 v1 v4 v5 v6 y13.2
theorem dg_takeName_97 (w : wX) (c : Nat → Option am_C) (N D : Nat) (bb : Nat) (v1 : Int) (v4 : Int) (v5 : Int) (v6 : Int) (q1 : R32 v1) (q4 : R32 v4) (q5 : R32 v5) (q6 : R32 v6) (m : mR) (hm : Cn m) (j : Nat → Int) : PP bb w D pm_251 (97, [(0, .ref 189), (1, .int (i32 v1)), (2, .int (i32 (j 2))), (3, .int (i32 (j 3))), (4, .int (i32 v4)), (5, .int (i32 v5)), (6, .int (i32 v6))], [], (mhp m c, N), 0, 0) (QS (FR0 c N) (rfl_takeName_97 v1 v4 v5 v6 m)) := by
  unfold rfl_takeName_97
  show PP bb w D pm_251 (97, [(0, .ref 189), (1, .int (i32 v1)), (2, .int (i32 (j 2))), (3, .int (i32 (j 3))), (4, .int (i32 v4)), (5, .int (i32 v5)), (6, .int (i32 v6))], [], (mhp (mO m [] []) c, N), 0, 0) _
  refine P_ld 98 (.ref 189) rfl (fun _ => rfl) ?_
  refine P_ld 100 (.int (i32 46)) rfl (fun _ => rfl) ?_
  refine P_ca0 103 232 [.ref 189, .int (i32 46)] [] rfl (fun _ => rfl) rfl (D_need w m c N D hm 46 (l32 46 rfl)) (fun y13 n15 => ?_)
  exact dg_takeName_103 w c N D bb v1 v4 v5 v6 q1 q4 q5 q6 y13.2 n15 (jk [(2, j 2), (3, j 3)])
def rf_takeName (v1 : Int) (m : mR) : Option (Int × mR) :=
  bnd (rf_parameterHere m) fun y16 =>
  bnd (rf_sortHere m) fun y18 =>
  if y16 < 0 then
    if y18 = 3 then
      bnd (rf_whichHere m) fun y31 =>
      bnd (rf_next m) fun y33 =>
      rfl_takeName_139 v1 ((m.2 35) y31) 402 y31 y33.2
    else
      if y18 = 2 then
        bnd (rf_whichHere m) fun y26 =>
        bnd (rf_next m) fun y28 =>
        rfl_takeName_97 v1 1 401 y26 y28.2
      else
        bnd (rf_wrong 6 (m.1 8) m) fun y23 =>
        rfl_takeName_139 v1 1 403 0 y23.2
  else
    bnd (rf_next m) fun y36 =>
    rfl_takeName_139 v1 ((m.2 49) y16) 403 (y16.tmod 4) y36.2
theorem D_takeName (w : wX) (m : mR) (c : Nat → Option am_C) (N D : Nat) (hm : Cn m) (v1 : Int) (q1 : R32 v1) : PC w D 251 [.ref 189, .int (i32 v1)] (mhp m c, N) (QS (FR0 c N) (rf_takeName v1 m)) := by
  refine Pc_of (fun D bb => ?_) D
  unfold rf_takeName
  show PP bb w D pm_251 (0, [(0, .ref 189), (1, .int (i32 v1))], [], (mhp (mO m [] []) c, N), 0, 0) _
  refine P_ld 1 (.ref 189) rfl (fun _ => rfl) ?_
  refine P_cp1 4 252 [.ref 189] [] rfl (fun _ => rfl) rfl (D_parameterHere w m c N D hm) (fun y16 h17 => ?_)
  refine P_sto 5 [(2, .int (i32 y16)), (0, .ref 189), (1, .int (i32 v1))] rfl (fun _ => rfl) ?_
  refine P_ld 6 (.ref 189) rfl (fun _ => rfl) ?_
  refine P_cp1 9 227 [.ref 189] [] rfl (fun _ => rfl) rfl (D_sortHere w m c N D hm) (fun y18 h19 => ?_)
  refine P_sto 10 [(3, .int (i32 y18)), (2, .int (i32 y16)), (0, .ref 189), (1, .int (i32 v1))] rfl (fun _ => rfl) ?_
  refine P_ld 11 (.int (i32 1)) rfl (fun _ => rfl) ?_
  refine P_sto 13 [(4, .int (i32 1)), (3, .int (i32 y18)), (2, .int (i32 y16)), (0, .ref 189), (1, .int (i32 v1))] rfl (fun _ => rfl) ?_
  refine P_ld 16 (.int (i32 403)) rfl (fun _ => rfl) ?_
  refine P_sto 18 [(5, .int (i32 403)), (4, .int (i32 1)), (3, .int (i32 y18)), (2, .int (i32 y16)), (0, .ref 189), (1, .int (i32 v1))] rfl (fun _ => rfl) ?_
  refine P_ld 19 (.int (i32 0)) rfl (fun _ => rfl) ?_
  refine P_sto 21 [(6, .int (i32 0)), (5, .int (i32 403)), (4, .int (i32 1)), (3, .int (i32 y18)), (2, .int (i32 y16)), (0, .ref 189), (1, .int (i32 v1))] rfl (fun _ => rfl) ?_
  refine P_ld 22 (.int (i32 y16)) rfl (fun _ => rfl) ?_
  refine P_ifF 45 25 rfl rfl rfl h17 rfl (fun h20 => ?_) (fun h20 => ?_)
  · skip
    refine P_ld 46 (.int (i32 y18)) rfl (fun _ => rfl) ?_
    refine P_ld 47 (.int (i32 3)) rfl (fun _ => rfl) ?_
    refine P_icE 77 50 rfl rfl rfl h19 (l32 3 rfl) rfl (fun h21 => ?_) (fun h21 => ?_)
    · skip
      refine P_ld 53 (.int (i32 402)) rfl (fun _ => rfl) ?_
      refine P_sto 55 [(5, .int (i32 402)), (6, .int (i32 0)), (4, .int (i32 1)), (3, .int (i32 y18)), (2, .int (i32 y16)), (0, .ref 189), (1, .int (i32 v1))] rfl (fun _ => rfl) ?_
      refine P_ld 56 (.ref 189) rfl (fun _ => rfl) ?_
      refine P_cp1 59 237 [.ref 189] [] rfl (fun _ => rfl) rfl (D_whichHere w m c N D hm) (fun y31 h32 => ?_)
      refine P_sto 61 [(6, .int (i32 y31)), (5, .int (i32 402)), (4, .int (i32 1)), (3, .int (i32 y18)), (2, .int (i32 y16)), (0, .ref 189), (1, .int (i32 v1))] rfl (fun _ => rfl) ?_
      refine P_gf 65 (.ref 205) rfl rfl rfl rfl rfl rfl ?_
      refine P_ld 67 (.int (i32 y31)) rfl (fun _ => rfl) ?_
      refine P_iald2 68 35 (m.2 35) rfl rfl rfl h32 rfl ?_
      refine P_sto 70 [(4, .int (i32 ((m.2 35) y31))), (6, .int (i32 y31)), (5, .int (i32 402)), (3, .int (i32 y18)), (2, .int (i32 y16)), (0, .ref 189), (1, .int (i32 v1))] rfl (fun _ => rfl) ?_
      refine P_ld 71 (.ref 189) rfl (fun _ => rfl) ?_
      refine P_ca0 74 212 [.ref 189] [] rfl (fun _ => rfl) rfl (D_next w m c N D hm) (fun y33 n35 => ?_)
      refine P_goto 139 rfl (fun _ => rfl) ?_
      refine P_lv (b := [(0, .ref 189), (1, .int (i32 v1)), (2, .int (i32 y16)), (3, .int (i32 y18)), (4, .int (i32 ((m.2 35) y31))), (5, .int (i32 402)), (6, .int (i32 y31))]) rfl rfl ⟨rfl, rfl, rfl, rfl, rfl, rfl, rfl, trivial⟩ ?_
      exact dg_takeName_139 w c N D bb v1 ((m.2 35) y31) 402 y31 q1 (rE_i (Cn_a hm 35) rfl _) (l32 402 rfl) h32 y33.2 n35 (jk [(2, y16), (3, y18)])
    · skip
      refine P_ld 78 (.int (i32 y18)) rfl (fun _ => rfl) ?_
      refine P_ld 79 (.int (i32 2)) rfl (fun _ => rfl) ?_
      refine P_icE 129 82 rfl rfl rfl h19 (l32 2 rfl) rfl (fun h22 => ?_) (fun h22 => ?_)
      · skip
        refine P_ld 85 (.int (i32 401)) rfl (fun _ => rfl) ?_
        refine P_sto 87 [(5, .int (i32 401)), (6, .int (i32 0)), (4, .int (i32 1)), (3, .int (i32 y18)), (2, .int (i32 y16)), (0, .ref 189), (1, .int (i32 v1))] rfl (fun _ => rfl) ?_
        refine P_ld 88 (.ref 189) rfl (fun _ => rfl) ?_
        refine P_cp1 91 237 [.ref 189] [] rfl (fun _ => rfl) rfl (D_whichHere w m c N D hm) (fun y26 h27 => ?_)
        refine P_sto 93 [(6, .int (i32 y26)), (5, .int (i32 401)), (4, .int (i32 1)), (3, .int (i32 y18)), (2, .int (i32 y16)), (0, .ref 189), (1, .int (i32 v1))] rfl (fun _ => rfl) ?_
        refine P_ld 94 (.ref 189) rfl (fun _ => rfl) ?_
        refine P_ca0 97 212 [.ref 189] [] rfl (fun _ => rfl) rfl (D_next w m c N D hm) (fun y28 n30 => ?_)
        refine P_lv (b := [(0, .ref 189), (1, .int (i32 v1)), (2, .int (i32 y16)), (3, .int (i32 y18)), (4, .int (i32 1)), (5, .int (i32 401)), (6, .int (i32 y26))]) rfl rfl ⟨rfl, rfl, rfl, rfl, rfl, rfl, rfl, trivial⟩ ?_
        exact dg_takeName_97 w c N D bb v1 1 401 y26 q1 (l32 1 rfl) (l32 401 rfl) h27 y28.2 n30 (jk [(2, y16), (3, y18)])
      · skip
        refine P_ld 130 (.ref 189) rfl (fun _ => rfl) ?_
        refine P_ld 132 (.int (i32 6)) rfl (fun _ => rfl) ?_
        refine P_gf 136 (.int (i32 (m.1 8))) rfl rfl rfl rfl rfl rfl ?_
        refine P_ca0 139 222 [.ref 189, .int (i32 6), .int (i32 (m.1 8))] [] rfl (fun _ => rfl) rfl (D_wrong w m c N D hm 6 (m.1 8) (l32 6 rfl) (Cn_i hm 8 rfl)) (fun y23 n25 => ?_)
        refine P_lv (b := [(0, .ref 189), (1, .int (i32 v1)), (2, .int (i32 y16)), (3, .int (i32 y18)), (4, .int (i32 1)), (5, .int (i32 403)), (6, .int (i32 0))]) rfl rfl ⟨rfl, rfl, rfl, rfl, rfl, rfl, rfl, trivial⟩ ?_
        exact dg_takeName_139 w c N D bb v1 1 403 0 q1 (l32 1 rfl) (l32 403 rfl) (l32 0 rfl) y23.2 n25 (jk [(2, y16), (3, y18)])
  · skip
    refine P_gf 29 (.ref 219) rfl rfl rfl rfl rfl rfl ?_
    refine P_ld 30 (.int (i32 y16)) rfl (fun _ => rfl) ?_
    refine P_iald2 31 49 (m.2 49) rfl rfl rfl h17 rfl ?_
    refine P_sto 33 [(4, .int (i32 ((m.2 49) y16))), (6, .int (i32 0)), (5, .int (i32 403)), (3, .int (i32 y18)), (2, .int (i32 y16)), (0, .ref 189), (1, .int (i32 v1))] rfl (fun _ => rfl) ?_
    refine P_ld 34 (.int (i32 y16)) rfl (fun _ => rfl) ?_
    refine P_ld 35 (.int (i32 4)) rfl (fun _ => rfl) ?_
    refine P_rem 36 rfl rfl h17 (by decide) (by decide) ?_
    refine P_sto 38 [(6, .int (i32 (y16.tmod 4))), (4, .int (i32 ((m.2 49) y16))), (5, .int (i32 403)), (3, .int (i32 y18)), (2, .int (i32 y16)), (0, .ref 189), (1, .int (i32 v1))] rfl (fun _ => rfl) ?_
    refine P_ld 39 (.ref 189) rfl (fun _ => rfl) ?_
    refine P_ca0 42 212 [.ref 189] [] rfl (fun _ => rfl) rfl (D_next w m c N D hm) (fun y36 n38 => ?_)
    refine P_goto 139 rfl (fun _ => rfl) ?_
    refine P_lv (b := [(0, .ref 189), (1, .int (i32 v1)), (2, .int (i32 y16)), (3, .int (i32 y18)), (4, .int (i32 ((m.2 49) y16))), (5, .int (i32 403)), (6, .int (i32 (y16.tmod 4)))]) rfl rfl ⟨rfl, rfl, rfl, rfl, rfl, rfl, rfl, trivial⟩ ?_
    exact dg_takeName_139 w c N D bb v1 ((m.2 49) y16) 403 (y16.tmod 4) q1 (rE_i (Cn_a hm 49) rfl _) (l32 403 rfl) (tmod_r h17 (by decide) (by decide)) y36.2 n38 (jk [(2, y16), (3, y18)])
def rfl_wantUnit_208 (m : mR) : Option (Int × mR) :=
  bnd (rf_beginChoice m) fun y1 =>
  some (0, y1.2)
theorem dg_wantUnit_208 (w : wX) (c : Nat → Option am_C) (N D : Nat) (bb : Nat) (m : mR) (hm : Cn m) (j : Nat → Int) : PP bb w D pm_247 (208, [(0, .ref 189), (1, .int (i32 (j 1)))], [], (mhp m c, N), 0, 0) (QS (FR0 c N) (rfl_wantUnit_208 m)) := by
  unfold rfl_wantUnit_208
  show PP bb w D pm_247 (208, [(0, .ref 189), (1, .int (i32 (j 1)))], [], (mhp (mO m [] []) c, N), 0, 0) _
  refine P_ld 209 (.ref 189) rfl (fun _ => rfl) ?_
  refine P_ca0 212 245 [.ref 189] [] rfl (fun _ => rfl) rfl (D_beginChoice w m c N D hm) (fun y1 n3 => ?_)
  refine P_goto 219 rfl (fun _ => rfl) ?_
  exact P_re0 rfl rfl n3
def rfl_wantUnit_204 (m : mR) : Option (Int × mR) :=
  bnd (rf_next m) fun y4 =>
  rfl_wantUnit_208 y4.2
theorem dg_wantUnit_204 (w : wX) (c : Nat → Option am_C) (N D : Nat) (bb : Nat) (m : mR) (hm : Cn m) (j : Nat → Int) : PP bb w D pm_247 (204, [(0, .ref 189), (1, .int (i32 (j 1)))], [], (mhp m c, N), 0, 0) (QS (FR0 c N) (rfl_wantUnit_204 m)) := by
  unfold rfl_wantUnit_204
  show PP bb w D pm_247 (204, [(0, .ref 189), (1, .int (i32 (j 1)))], [], (mhp (mO m [] []) c, N), 0, 0) _
  refine P_ld 205 (.ref 189) rfl (fun _ => rfl) ?_
  refine P_ca0 208 212 [.ref 189] [] rfl (fun _ => rfl) rfl (D_next w m c N D hm) (fun y4 n6 => ?_)
  exact dg_wantUnit_208 w c N D bb y4.2 n6 (jk [(1, j 1)])
def rfl_wantUnit_179 (v1 : Int) (m : mR) : Option (Int × mR) :=
  bnd (rf_atom 1 v1 m) fun y7 =>
  some (0, y7.2)
theorem dg_wantUnit_179 (w : wX) (c : Nat → Option am_C) (N D : Nat) (bb : Nat) (v1 : Int) (q1 : R32 v1) (m : mR) (hm : Cn m) (j : Nat → Int) : PP bb w D pm_247 (179, [(0, .ref 189), (1, .int (i32 v1)), (2, .int (i32 (j 2)))], [], (mhp m c, N), 0, 0) (QS (FR0 c N) (rfl_wantUnit_179 v1 m)) := by
  unfold rfl_wantUnit_179
  show PP bb w D pm_247 (179, [(0, .ref 189), (1, .int (i32 v1)), (2, .int (i32 (j 2)))], [], (mhp (mO m [] []) c, N), 0, 0) _
  refine P_ld 180 (.ref 189) rfl (fun _ => rfl) ?_
  refine P_ld 181 (.int (i32 1)) rfl (fun _ => rfl) ?_
  refine P_ld 182 (.int (i32 v1)) rfl (fun _ => rfl) ?_
  refine P_ca0 185 249 [.ref 189, .int (i32 1), .int (i32 v1)] [] rfl (fun _ => rfl) rfl (D_atom w m c N D hm 1 v1 (l32 1 rfl) q1) (fun y7 n9 => ?_)
  refine P_goto 219 rfl (fun _ => rfl) ?_
  exact P_re0 rfl rfl n9
def rfl_wantUnit_168 (v1 : Int) (u0 : Int) (m : mR) : Option (Int × mR) :=
  bnd (rf_node 404 1 u0 0 m) fun y10 =>
  rfl_wantUnit_179 v1 y10.2
theorem dg_wantUnit_168 (w : wX) (c : Nat → Option am_C) (N D : Nat) (bb : Nat) (v1 : Int) (u0 : Int) (q1 : R32 v1) (r0 : R32 u0) (m : mR) (hm : Cn m) (j : Nat → Int) : PP bb w D pm_247 (168, [(0, .ref 189), (1, .int (i32 v1))], [.int (i32 u0)], (mhp m c, N), 0, 0) (QS (FR0 c N) (rfl_wantUnit_168 v1 u0 m)) := by
  unfold rfl_wantUnit_168
  show PP bb w D pm_247 (168, [(0, .ref 189), (1, .int (i32 v1))], [.int (i32 u0)], (mhp (mO m [] []) c, N), 0, 0) _
  refine P_sto 169 [(2, .int (i32 u0)), (0, .ref 189), (1, .int (i32 v1))] rfl (fun _ => rfl) ?_
  refine P_ld 170 (.ref 189) rfl (fun _ => rfl) ?_
  refine P_ld 173 (.int (i32 404)) rfl (fun _ => rfl) ?_
  refine P_ld 174 (.int (i32 1)) rfl (fun _ => rfl) ?_
  refine P_ld 175 (.int (i32 u0)) rfl (fun _ => rfl) ?_
  refine P_ld 176 (.long (i64 0)) rfl (fun _ => rfl) ?_
  refine P_ca0 179 248 [.ref 189, .int (i32 404), .int (i32 1), .int (i32 u0), .long (i64 0)] [] rfl (fun _ => rfl) rfl (D_node w m c N D hm 404 1 u0 0 (l32 404 rfl) (l32 1 rfl) r0 (l64 0 rfl)) (fun y10 n12 => ?_)
  refine P_lv (b := [(0, .ref 189), (1, .int (i32 v1)), (2, .int (i32 u0))]) rfl rfl ⟨rfl, rfl, rfl, trivial⟩ ?_
  exact dg_wantUnit_179 w c N D bb v1 q1 y10.2 n12 (jk [(2, u0)])
def rfl_wantUnit_163 (v1 : Int) (m : mR) : Option (Int × mR) :=
  bnd (rf_oldName 2 m) fun y13 =>
  rfl_wantUnit_168 v1 y13.1 y13.2
theorem dg_wantUnit_163 (w : wX) (c : Nat → Option am_C) (N D : Nat) (bb : Nat) (v1 : Int) (q1 : R32 v1) (m : mR) (hm : Cn m) (j : Nat → Int) : PP bb w D pm_247 (163, [(0, .ref 189), (1, .int (i32 v1))], [], (mhp m c, N), 0, 0) (QS (FR0 c N) (rfl_wantUnit_163 v1 m)) := by
  unfold rfl_wantUnit_163
  show PP bb w D pm_247 (163, [(0, .ref 189), (1, .int (i32 v1))], [], (mhp (mO m [] []) c, N), 0, 0) _
  refine P_ld 164 (.ref 189) rfl (fun _ => rfl) ?_
  refine P_ld 165 (.int (i32 2)) rfl (fun _ => rfl) ?_
  refine P_ca1 168 236 [.ref 189, .int (i32 2)] [] rfl (fun _ => rfl) rfl (D_oldName w m c N D hm 2 (l32 2 rfl)) (fun y13 h14 n15 => ?_)
  exact dg_wantUnit_168 w c N D bb v1 y13.1 q1 h14 y13.2 n15 (jk [])
def rfl_wantUnit_120 (v2 : Int) (m : mR) : Option (Int × mR) :=
  some (0, (mO m [(71, 1), (72, v2)] []))
theorem dg_wantUnit_120 (w : wX) (c : Nat → Option am_C) (N D : Nat) (bb : Nat) (v2 : Int) (q2 : R64 v2) (m : mR) (hm : Cn m) (j : Nat → Int) : PP bb w D pm_247 (120, [(0, .ref 189), (1, .int (i32 (j 1))), (2, .long (i64 v2))], [], (mhp m c, N), 0, 0) (QS (FR0 c N) (rfl_wantUnit_120 v2 m)) := by
  unfold rfl_wantUnit_120
  show PP bb w D pm_247 (120, [(0, .ref 189), (1, .int (i32 (j 1))), (2, .long (i64 v2))], [], (mhp (mO m [] []) c, N), 0, 0) _
  refine P_ld 121 (.ref 189) rfl (fun _ => rfl) ?_
  refine P_ld 122 (.int (i32 1)) rfl (fun _ => rfl) ?_
  refine P_pf (l' := [(71, 1)]) 125 1 rfl rfl rfl rfl rfl rfl ?_
  refine P_ld 126 (.ref 189) rfl (fun _ => rfl) ?_
  refine P_ld 127 (.long (i64 v2)) rfl (fun _ => rfl) ?_
  refine P_pf (l' := [(71, 1), (72, v2)]) 130 v2 rfl rfl rfl rfl rfl rfl ?_
  refine P_goto 219 rfl (fun _ => rfl) ?_
  exact P_re0 rfl rfl (Cn_mO hm ⟨(rV_i rfl (l32 1 rfl)), (rV_l rfl q2), trivial⟩ trivial)
def rfl_wantUnit_113 (v1 : Int) (v2 : Int) (m : mR) : Option (Int × mR) :=
  bnd (rf_atom 64 v1 m) fun y16 =>
  rfl_wantUnit_120 v2 y16.2
theorem dg_wantUnit_113 (w : wX) (c : Nat → Option am_C) (N D : Nat) (bb : Nat) (v1 : Int) (v2 : Int) (q1 : R32 v1) (q2 : R64 v2) (m : mR) (hm : Cn m) (j : Nat → Int) : PP bb w D pm_247 (113, [(0, .ref 189), (1, .int (i32 v1)), (2, .long (i64 v2))], [], (mhp m c, N), 0, 0) (QS (FR0 c N) (rfl_wantUnit_113 v1 v2 m)) := by
  unfold rfl_wantUnit_113
  show PP bb w D pm_247 (113, [(0, .ref 189), (1, .int (i32 v1)), (2, .long (i64 v2))], [], (mhp (mO m [] []) c, N), 0, 0) _
  refine P_ld 114 (.ref 189) rfl (fun _ => rfl) ?_
  refine P_ld 116 (.int (i32 64)) rfl (fun _ => rfl) ?_
  refine P_ld 117 (.int (i32 v1)) rfl (fun _ => rfl) ?_
  refine P_ca0 120 249 [.ref 189, .int (i32 64), .int (i32 v1)] [] rfl (fun _ => rfl) rfl (D_atom w m c N D hm 64 v1 (l32 64 rfl) q1) (fun y16 n18 => ?_)
  exact dg_wantUnit_120 w c N D bb v2 q2 y16.2 n18 (jk [(1, v1)])
def rfl_wantUnit_102 (v1 : Int) (v2 : Int) (m : mR) : Option (Int × mR) :=
  bnd (rf_node 400 64 0 v2 m) fun y19 =>
  rfl_wantUnit_113 v1 v2 y19.2
theorem dg_wantUnit_102 (w : wX) (c : Nat → Option am_C) (N D : Nat) (bb : Nat) (v1 : Int) (v2 : Int) (q1 : R32 v1) (q2 : R64 v2) (m : mR) (hm : Cn m) (j : Nat → Int) : PP bb w D pm_247 (102, [(0, .ref 189), (1, .int (i32 v1)), (2, .long (i64 v2))], [], (mhp m c, N), 0, 0) (QS (FR0 c N) (rfl_wantUnit_102 v1 v2 m)) := by
  unfold rfl_wantUnit_102
  show PP bb w D pm_247 (102, [(0, .ref 189), (1, .int (i32 v1)), (2, .long (i64 v2))], [], (mhp (mO m [] []) c, N), 0, 0) _
  refine P_ld 103 (.ref 189) rfl (fun _ => rfl) ?_
  refine P_ld 106 (.int (i32 400)) rfl (fun _ => rfl) ?_
  refine P_ld 108 (.int (i32 64)) rfl (fun _ => rfl) ?_
  refine P_ld 109 (.int (i32 0)) rfl (fun _ => rfl) ?_
  refine P_ld 110 (.long (i64 v2)) rfl (fun _ => rfl) ?_
  refine P_ca0 113 248 [.ref 189, .int (i32 400), .int (i32 64), .int (i32 0), .long (i64 v2)] [] rfl (fun _ => rfl) rfl (D_node w m c N D hm 400 64 0 v2 (l32 400 rfl) (l32 64 rfl) (l32 0 rfl) q2) (fun y19 n21 => ?_)
  exact dg_wantUnit_113 w c N D bb v1 v2 q1 q2 y19.2 n21 (jk [])
def rfl_wantUnit_78 (m : mR) : Option (Int × mR) :=
  bnd (rf_next m) fun y22 =>
  some (0, y22.2)
theorem dg_wantUnit_78 (w : wX) (c : Nat → Option am_C) (N D : Nat) (bb : Nat) (m : mR) (hm : Cn m) (j : Nat → Int) : PP bb w D pm_247 (78, [(0, .ref 189), (1, .int (i32 (j 1)))], [], (mhp m c, N), 0, 0) (QS (FR0 c N) (rfl_wantUnit_78 m)) := by
  unfold rfl_wantUnit_78
  show PP bb w D pm_247 (78, [(0, .ref 189), (1, .int (i32 (j 1)))], [], (mhp (mO m [] []) c, N), 0, 0) _
  refine P_ld 79 (.ref 189) rfl (fun _ => rfl) ?_
  refine P_ca0 82 212 [.ref 189] [] rfl (fun _ => rfl) rfl (D_next w m c N D hm) (fun y22 n24 => ?_)
  refine P_goto 219 rfl (fun _ => rfl) ?_
  exact P_re0 rfl rfl n24
def rfl_wantUnit_50 (v1 : Int) (m : mR) : Option (Int × mR) :=
  if m.1 10 ≤ 0 then
    bnd (rf_open 1 v1 (m.1 7) (mO m [(74, cut ((m.1 74) + 1))] [])) fun y26 =>
    rfl_wantUnit_78 y26.2
  else
    some (0, m)
theorem dg_wantUnit_50 (w : wX) (c : Nat → Option am_C) (N D : Nat) (bb : Nat) (v1 : Int) (q1 : R32 v1) (m : mR) (hm : Cn m) (j : Nat → Int) : PP bb w D pm_247 (50, [(0, .ref 189), (1, .int (i32 v1))], [], (mhp m c, N), 0, 0) (QS (FR0 c N) (rfl_wantUnit_50 v1 m)) := by
  unfold rfl_wantUnit_50
  show PP bb w D pm_247 (50, [(0, .ref 189), (1, .int (i32 v1))], [], (mhp (mO m [] []) c, N), 0, 0) _
  refine P_gf 54 (.int (i32 (m.1 10))) rfl rfl rfl rfl rfl rfl ?_
  refine P_ifF 58 57 rfl rfl rfl (Cn_i hm 10 rfl) rfl (fun h25 => ?_) (fun h25 => ?_)
  · skip
    refine P_ld 59 (.ref 189) rfl (fun _ => rfl) ?_
    refine P_ld 60 (.ref 189) rfl (fun _ => rfl) ?_
    refine P_gf1 63 (.int (i32 (m.1 74))) rfl rfl rfl rfl ?_
    refine P_ld 64 (.int (i32 1)) rfl (fun _ => rfl) ?_
    refine P_op 65 (cut ((m.1 74) + 1)) _ rfl (fun _ => rfl) o_add ?_
    refine P_pf (l' := [(74, cut ((m.1 74) + 1))]) 68 (cut ((m.1 74) + 1)) rfl rfl rfl rfl rfl rfl ?_
    refine P_ld 69 (.ref 189) rfl (fun _ => rfl) ?_
    refine P_ld 70 (.int (i32 1)) rfl (fun _ => rfl) ?_
    refine P_ld 71 (.int (i32 v1)) rfl (fun _ => rfl) ?_
    refine P_gf 75 (.int (i32 (m.1 7))) rfl rfl rfl rfl rfl rfl ?_
    refine P_ca0 78 246 [.ref 189, .int (i32 1), .int (i32 v1), .int (i32 (m.1 7))] [] rfl (fun _ => rfl) rfl (D_open w (mO m [(74, cut ((m.1 74) + 1))] []) c N D (Cn_mO hm ⟨(rV_i rfl cut_r), trivial⟩ trivial) 1 v1 (m.1 7) (l32 1 rfl) q1 (Cn_i hm 7 rfl)) (fun y26 n28 => ?_)
    exact dg_wantUnit_78 w c N D bb y26.2 n28 (jk [(1, v1)])
  · skip
    exact P_re0 rfl rfl hm
def rfl_wantUnit_32 (v1 : Int) (m : mR) : Option (Int × mR) :=
  if m.1 74 = 24 then
    bnd (rf_wrong 4 (m.1 8) m) fun y30 =>
    rfl_wantUnit_50 v1 y30.2
  else
    rfl_wantUnit_50 v1 m
theorem dg_wantUnit_32 (w : wX) (c : Nat → Option am_C) (N D : Nat) (bb : Nat) (v1 : Int) (q1 : R32 v1) (m : mR) (hm : Cn m) (j : Nat → Int) : PP bb w D pm_247 (32, [(0, .ref 189), (1, .int (i32 v1))], [], (mhp m c, N), 0, 0) (QS (FR0 c N) (rfl_wantUnit_32 v1 m)) := by
  unfold rfl_wantUnit_32
  show PP bb w D pm_247 (32, [(0, .ref 189), (1, .int (i32 v1))], [], (mhp (mO m [] []) c, N), 0, 0) _
  refine P_gf 36 (.int (i32 (m.1 74))) rfl rfl rfl rfl rfl rfl ?_
  refine P_ld 38 (.int (i32 24)) rfl (fun _ => rfl) ?_
  refine P_icE 50 41 rfl rfl rfl (Cn_i hm 74 rfl) (l32 24 rfl) rfl (fun h29 => ?_) (fun h29 => ?_)
  · skip
    refine P_ld 42 (.ref 189) rfl (fun _ => rfl) ?_
    refine P_ld 43 (.int (i32 4)) rfl (fun _ => rfl) ?_
    refine P_gf 47 (.int (i32 (m.1 8))) rfl rfl rfl rfl rfl rfl ?_
    refine P_ca0 50 222 [.ref 189, .int (i32 4), .int (i32 (m.1 8))] [] rfl (fun _ => rfl) rfl (D_wrong w m c N D hm 4 (m.1 8) (l32 4 rfl) (Cn_i hm 8 rfl)) (fun y30 n32 => ?_)
    exact dg_wantUnit_50 w c N D bb v1 q1 y30.2 n32 (jk [])
  · skip
    exact dg_wantUnit_50 w c N D bb v1 q1 m hm (jk [])
def rf_wantUnit (m : mR) : Option (Int × mR) :=
  if m.1 7 = 126 then
    rfl_wantUnit_32 (m.1 8) m
  else
    if m.1 7 = 33 then
      rfl_wantUnit_32 (m.1 8) m
    else
      if m.1 7 = 45 then
        rfl_wantUnit_32 (m.1 8) m
      else
        if m.1 7 = 2 then
          bnd (rf_next m) fun y52 =>
          rfl_wantUnit_102 (m.1 8) (m.1 12) y52.2
        else
          if m.1 7 = 1 then
            bnd (rf_takeName (m.1 8) m) fun y49 =>
            some (0, y49.2)
          else
            if m.1 7 = 329 then
              bnd (rf_next m) fun y46 =>
              rfl_wantUnit_163 (m.1 8) y46.2
            else
              if m.1 7 = 40 then
                bnd (rf_open 2 (m.1 8) 0 m) fun y43 =>
                rfl_wantUnit_204 y43.2
              else
                bnd (rf_bad m) fun y40 =>
                some (0, y40.2)
theorem D_wantUnit (w : wX) (m : mR) (c : Nat → Option am_C) (N D : Nat) (hm : Cn m) : PC w D 247 [.ref 189] (mhp m c, N) (QS (FR0 c N) (rf_wantUnit m)) := by
  refine Pc_of (fun D bb => ?_) D
  unfold rf_wantUnit
  show PP bb w D pm_247 (0, [(0, .ref 189)], [], (mhp (mO m [] []) c, N), 0, 0) _
  refine P_gf 4 (.int (i32 (m.1 8))) rfl rfl rfl rfl rfl rfl ?_
  refine P_sto 5 [(1, .int (i32 (m.1 8))), (0, .ref 189)] rfl (fun _ => rfl) ?_
  refine P_gf 9 (.int (i32 (m.1 7))) rfl rfl rfl rfl rfl rfl ?_
  refine P_ld 11 (.int (i32 126)) rfl (fun _ => rfl) ?_
  refine P_icF 32 14 rfl rfl rfl (Cn_i hm 7 rfl) (l32 126 rfl) rfl (fun h33 => ?_) (fun h33 => ?_)
  · skip
    refine P_lv (b := [(0, .ref 189), (1, .int (i32 (m.1 8)))]) rfl rfl ⟨rfl, rfl, trivial⟩ ?_
    exact dg_wantUnit_32 w c N D bb (m.1 8) (Cn_i hm 8 rfl) m hm (jk [])
  · skip
    refine P_gf 18 (.int (i32 (m.1 7))) rfl rfl rfl rfl rfl rfl ?_
    refine P_ld 20 (.int (i32 33)) rfl (fun _ => rfl) ?_
    refine P_icF 32 23 rfl rfl rfl (Cn_i hm 7 rfl) (l32 33 rfl) rfl (fun h34 => ?_) (fun h34 => ?_)
    · skip
      refine P_lv (b := [(0, .ref 189), (1, .int (i32 (m.1 8)))]) rfl rfl ⟨rfl, rfl, trivial⟩ ?_
      exact dg_wantUnit_32 w c N D bb (m.1 8) (Cn_i hm 8 rfl) m hm (jk [])
    · skip
      refine P_gf 27 (.int (i32 (m.1 7))) rfl rfl rfl rfl rfl rfl ?_
      refine P_ld 29 (.int (i32 45)) rfl (fun _ => rfl) ?_
      refine P_icE 85 32 rfl rfl rfl (Cn_i hm 7 rfl) (l32 45 rfl) rfl (fun h35 => ?_) (fun h35 => ?_)
      · skip
        refine P_lv (b := [(0, .ref 189), (1, .int (i32 (m.1 8)))]) rfl rfl ⟨rfl, rfl, trivial⟩ ?_
        exact dg_wantUnit_32 w c N D bb (m.1 8) (Cn_i hm 8 rfl) m hm (jk [])
      · skip
        refine P_gf 89 (.int (i32 (m.1 7))) rfl rfl rfl rfl rfl rfl ?_
        refine P_ld 90 (.int (i32 2)) rfl (fun _ => rfl) ?_
        refine P_icE 133 93 rfl rfl rfl (Cn_i hm 7 rfl) (l32 2 rfl) rfl (fun h36 => ?_) (fun h36 => ?_)
        · skip
          refine P_gf 97 (.long (i64 (m.1 12))) rfl rfl rfl rfl rfl rfl ?_
          refine P_sto 98 [(2, .long (i64 (m.1 12))), (1, .int (i32 (m.1 8))), (0, .ref 189)] rfl (fun _ => rfl) ?_
          refine P_ld 99 (.ref 189) rfl (fun _ => rfl) ?_
          refine P_ca0 102 212 [.ref 189] [] rfl (fun _ => rfl) rfl (D_next w m c N D hm) (fun y52 n54 => ?_)
          refine P_lv (b := [(0, .ref 189), (1, .int (i32 (m.1 8))), (2, .long (i64 (m.1 12)))]) rfl rfl ⟨rfl, rfl, rfl, trivial⟩ ?_
          exact dg_wantUnit_102 w c N D bb (m.1 8) (m.1 12) (Cn_i hm 8 rfl) (Cn_l hm 12 rfl) y52.2 n54 (jk [])
        · skip
          refine P_gf 137 (.int (i32 (m.1 7))) rfl rfl rfl rfl rfl rfl ?_
          refine P_ld 138 (.int (i32 1)) rfl (fun _ => rfl) ?_
          refine P_icE 149 141 rfl rfl rfl (Cn_i hm 7 rfl) (l32 1 rfl) rfl (fun h37 => ?_) (fun h37 => ?_)
          · skip
            refine P_ld 142 (.ref 189) rfl (fun _ => rfl) ?_
            refine P_ld 143 (.int (i32 (m.1 8))) rfl (fun _ => rfl) ?_
            refine P_ca0 146 251 [.ref 189, .int (i32 (m.1 8))] [] rfl (fun _ => rfl) rfl (D_takeName w m c N D hm (m.1 8) (Cn_i hm 8 rfl)) (fun y49 n51 => ?_)
            refine P_goto 219 rfl (fun _ => rfl) ?_
            exact P_re0 rfl rfl n51
          · skip
            refine P_gf 153 (.int (i32 (m.1 7))) rfl rfl rfl rfl rfl rfl ?_
            refine P_ld 156 (.int (i32 329)) rfl (fun _ => rfl) ?_
            refine P_icE 188 159 rfl rfl rfl (Cn_i hm 7 rfl) (l32 329 rfl) rfl (fun h38 => ?_) (fun h38 => ?_)
            · skip
              refine P_ld 160 (.ref 189) rfl (fun _ => rfl) ?_
              refine P_ca0 163 212 [.ref 189] [] rfl (fun _ => rfl) rfl (D_next w m c N D hm) (fun y46 n48 => ?_)
              refine P_lv (b := [(0, .ref 189), (1, .int (i32 (m.1 8)))]) rfl rfl ⟨rfl, rfl, trivial⟩ ?_
              exact dg_wantUnit_163 w c N D bb (m.1 8) (Cn_i hm 8 rfl) y46.2 n48 (jk [])
            · skip
              refine P_gf 192 (.int (i32 (m.1 7))) rfl rfl rfl rfl rfl rfl ?_
              refine P_ld 194 (.int (i32 40)) rfl (fun _ => rfl) ?_
              refine P_icE 215 197 rfl rfl rfl (Cn_i hm 7 rfl) (l32 40 rfl) rfl (fun h39 => ?_) (fun h39 => ?_)
              · skip
                refine P_ld 198 (.ref 189) rfl (fun _ => rfl) ?_
                refine P_ld 199 (.int (i32 2)) rfl (fun _ => rfl) ?_
                refine P_ld 200 (.int (i32 (m.1 8))) rfl (fun _ => rfl) ?_
                refine P_ld 201 (.int (i32 0)) rfl (fun _ => rfl) ?_
                refine P_ca0 204 246 [.ref 189, .int (i32 2), .int (i32 (m.1 8)), .int (i32 0)] [] rfl (fun _ => rfl) rfl (D_open w m c N D hm 2 (m.1 8) 0 (l32 2 rfl) (Cn_i hm 8 rfl) (l32 0 rfl)) (fun y43 n45 => ?_)
                refine P_lv (b := [(0, .ref 189), (1, .int (i32 (m.1 8)))]) rfl rfl ⟨rfl, rfl, trivial⟩ ?_
                exact dg_wantUnit_204 w c N D bb y43.2 n45 (jk [(1, m.1 8)])
              · skip
                refine P_ld 216 (.ref 189) rfl (fun _ => rfl) ?_
                refine P_ca0 219 226 [.ref 189] [] rfl (fun _ => rfl) rfl (D_bad w m c N D hm) (fun y40 n42 => ?_)
                exact P_re0 rfl rfl n42
def rf_want (v1 : Int) (v2 : Int) (m : mR) : Option (Int × mR) :=
  if v1 = 0 then
    bnd (rf_wrong 7 v2 m) fun y2 =>
    some (0, y2.2)
  else
    some (0, m)
theorem D_want (w : wX) (m : mR) (c : Nat → Option am_C) (N D : Nat) (hm : Cn m) (v1 : Int) (v2 : Int) (q1 : R32 v1) (q2 : R32 v2) : PC w D 256 [.ref 189, .int (i32 v1), .int (i32 v2)] (mhp m c, N) (QS (FR0 c N) (rf_want v1 v2 m)) := by
  refine Pc_of (fun D bb => ?_) D
  unfold rf_want
  show PP bb w D pm_256 (0, [(0, .ref 189), (1, .int (i32 v1)), (2, .int (i32 v2))], [], (mhp (mO m [] []) c, N), 0, 0) _
  refine P_ld 1 (.int (i32 v1)) rfl (fun _ => rfl) ?_
  refine P_ifE 11 4 rfl rfl rfl q1 rfl (fun h1 => ?_) (fun h1 => ?_)
  · skip
    refine P_ld 5 (.ref 189) rfl (fun _ => rfl) ?_
    refine P_ld 7 (.int (i32 7)) rfl (fun _ => rfl) ?_
    refine P_ld 8 (.int (i32 v2)) rfl (fun _ => rfl) ?_
    refine P_ca0 11 222 [.ref 189, .int (i32 7), .int (i32 v2)] [] rfl (fun _ => rfl) rfl (D_wrong w m c N D hm 7 v2 (l32 7 rfl) q2) (fun y2 n4 => ?_)
    exact P_re0 rfl rfl n4
  · skip
    exact P_re0 rfl rfl hm
def rfl_after_207 (v1 : Int) (m : mR) : Option (Int × mR) :=
  bnd (rf_unit v1 (m.1 70) m) fun y1 =>
  some (0, y1.2)
theorem dg_after_207 (w : wX) (c : Nat → Option am_C) (N D : Nat) (bb : Nat) (v1 : Int) (q1 : R32 v1) (m : mR) (hm : Cn m) (j : Nat → Int) : PP bb w D pm_255 (207, [(0, .ref 189), (1, .int (i32 v1))], [], (mhp m c, N), 0, 0) (QS (FR0 c N) (rfl_after_207 v1 m)) := by
  unfold rfl_after_207
  show PP bb w D pm_255 (207, [(0, .ref 189), (1, .int (i32 v1))], [], (mhp (mO m [] []) c, N), 0, 0) _
  refine P_ld 208 (.ref 189) rfl (fun _ => rfl) ?_
  refine P_ld 209 (.int (i32 v1)) rfl (fun _ => rfl) ?_
  refine P_gf 213 (.int (i32 (m.1 70))) rfl rfl rfl rfl rfl rfl ?_
  refine P_ca0 216 250 [.ref 189, .int (i32 v1), .int (i32 (m.1 70))] [] rfl (fun _ => rfl) rfl (D_unit w m c N D hm v1 (m.1 70) q1 (Cn_i hm 70 rfl)) (fun y1 n3 => ?_)
  refine P_goto 224 rfl (fun _ => rfl) ?_
  exact P_re0 rfl rfl n3
def rfl_after_196 (u0 : Int) (m : mR) : Option (Int × mR) :=
  bnd (rf_node 406 u0 0 0 m) fun y4 =>
  rfl_after_207 u0 y4.2
theorem dg_after_196 (w : wX) (c : Nat → Option am_C) (N D : Nat) (bb : Nat) (u0 : Int) (r0 : R32 u0) (m : mR) (hm : Cn m) (j : Nat → Int) : PP bb w D pm_255 (196, [(0, .ref 189)], [.int (i32 u0)], (mhp m c, N), 0, 0) (QS (FR0 c N) (rfl_after_196 u0 m)) := by
  unfold rfl_after_196
  show PP bb w D pm_255 (196, [(0, .ref 189)], [.int (i32 u0)], (mhp (mO m [] []) c, N), 0, 0) _
  refine P_sto 197 [(1, .int (i32 u0)), (0, .ref 189)] rfl (fun _ => rfl) ?_
  refine P_ld 198 (.ref 189) rfl (fun _ => rfl) ?_
  refine P_ld 201 (.int (i32 406)) rfl (fun _ => rfl) ?_
  refine P_ld 202 (.int (i32 u0)) rfl (fun _ => rfl) ?_
  refine P_ld 203 (.int (i32 0)) rfl (fun _ => rfl) ?_
  refine P_ld 204 (.long (i64 0)) rfl (fun _ => rfl) ?_
  refine P_ca0 207 248 [.ref 189, .int (i32 406), .int (i32 u0), .int (i32 0), .long (i64 0)] [] rfl (fun _ => rfl) rfl (D_node w m c N D hm 406 u0 0 0 (l32 406 rfl) r0 (l32 0 rfl) (l64 0 rfl)) (fun y4 n6 => ?_)
  refine P_lv (b := [(0, .ref 189), (1, .int (i32 u0))]) rfl rfl ⟨rfl, rfl, trivial⟩ ?_
  exact dg_after_207 w c N D bb u0 r0 y4.2 n6 (jk [])
def rfl_after_189 (m : mR) : Option (Int × mR) :=
  bnd (rf_number 1 64 m) fun y7 =>
  rfl_after_196 y7.1 y7.2
theorem dg_after_189 (w : wX) (c : Nat → Option am_C) (N D : Nat) (bb : Nat) (m : mR) (hm : Cn m) (j : Nat → Int) : PP bb w D pm_255 (189, [(0, .ref 189)], [], (mhp m c, N), 0, 0) (QS (FR0 c N) (rfl_after_189 m)) := by
  unfold rfl_after_189
  show PP bb w D pm_255 (189, [(0, .ref 189)], [], (mhp (mO m [] []) c, N), 0, 0) _
  refine P_ld 190 (.ref 189) rfl (fun _ => rfl) ?_
  refine P_ld 191 (.int (i32 1)) rfl (fun _ => rfl) ?_
  refine P_ld 193 (.int (i32 64)) rfl (fun _ => rfl) ?_
  refine P_ca1 196 234 [.ref 189, .int (i32 1), .int (i32 64)] [] rfl (fun _ => rfl) rfl (D_number w m c N D hm 1 64 (l32 1 rfl) (l32 64 rfl)) (fun y7 h8 n9 => ?_)
  exact dg_after_196 w c N D bb y7.1 h8 y7.2 n9 (jk [])
def rfl_after_159 (v2 : Int) (v4 : Int) (v6 : Int) (m : mR) : Option (Int × mR) :=
  bnd (rf_unit (cut ((cut (cutl (v2 - v4))) + 1)) v6 m) fun y10 =>
  some (0, y10.2)
theorem dg_after_159 (w : wX) (c : Nat → Option am_C) (N D : Nat) (bb : Nat) (v2 : Int) (v4 : Int) (v6 : Int) (q2 : R64 v2) (q4 : R64 v4) (q6 : R32 v6) (m : mR) (hm : Cn m) (j : Nat → Int) : PP bb w D pm_255 (159, [(0, .ref 189), (1, .int (i32 (j 1))), (2, .long (i64 v2)), (4, .long (i64 v4)), (6, .int (i32 v6))], [], (mhp m c, N), 0, 0) (QS (FR0 c N) (rfl_after_159 v2 v4 v6 m)) := by
  unfold rfl_after_159
  show PP bb w D pm_255 (159, [(0, .ref 189), (1, .int (i32 (j 1))), (2, .long (i64 v2)), (4, .long (i64 v4)), (6, .int (i32 v6))], [], (mhp (mO m [] []) c, N), 0, 0) _
  refine P_ld 160 (.ref 189) rfl (fun _ => rfl) ?_
  refine P_ld 161 (.long (i64 v2)) rfl (fun _ => rfl) ?_
  refine P_ld 163 (.long (i64 v4)) rfl (fun _ => rfl) ?_
  refine P_opl 164 (cutl (v2 - v4)) _ rfl (fun _ => rfl) p_sub ?_
  refine P_op 165 (cut (cutl (v2 - v4))) _ rfl (fun _ => rfl) o_l2i ?_
  refine P_ld 166 (.int (i32 1)) rfl (fun _ => rfl) ?_
  refine P_op 167 (cut ((cut (cutl (v2 - v4))) + 1)) _ rfl (fun _ => rfl) o_add ?_
  refine P_ld 169 (.int (i32 v6)) rfl (fun _ => rfl) ?_
  refine P_ca0 172 250 [.ref 189, .int (i32 (cut ((cut (cutl (v2 - v4))) + 1))), .int (i32 v6)] [] rfl (fun _ => rfl) rfl (D_unit w m c N D hm (cut ((cut (cutl (v2 - v4))) + 1)) v6 cut_r q6) (fun y10 n12 => ?_)
  refine P_goto 224 rfl (fun _ => rfl) ?_
  exact P_re0 rfl rfl n12
def rfl_after_127 (v2 : Int) (v4 : Int) (m : mR) : Option (Int × mR) :=
  if m.1 10 ≤ 0 then
    bnd (rf_node 405 (cut ((cut (cutl (v2 - v4))) + 1)) (cut v4) 0 m) fun y14 =>
    rfl_after_159 v2 v4 (m.1 70) y14.2
  else
    some (0, m)
theorem dg_after_127 (w : wX) (c : Nat → Option am_C) (N D : Nat) (bb : Nat) (v2 : Int) (v4 : Int) (q2 : R64 v2) (q4 : R64 v4) (m : mR) (hm : Cn m) (j : Nat → Int) : PP bb w D pm_255 (127, [(0, .ref 189), (1, .int (i32 (j 1))), (2, .long (i64 v2)), (4, .long (i64 v4))], [], (mhp m c, N), 0, 0) (QS (FR0 c N) (rfl_after_127 v2 v4 m)) := by
  unfold rfl_after_127
  show PP bb w D pm_255 (127, [(0, .ref 189), (1, .int (i32 (j 1))), (2, .long (i64 v2)), (4, .long (i64 v4))], [], (mhp (mO m [] []) c, N), 0, 0) _
  refine P_gf 131 (.int (i32 (m.1 10))) rfl rfl rfl rfl rfl rfl ?_
  refine P_ifF 135 134 rfl rfl rfl (Cn_i hm 10 rfl) rfl (fun h13 => ?_) (fun h13 => ?_)
  · skip
    refine P_gf 139 (.int (i32 (m.1 70))) rfl rfl rfl rfl rfl rfl ?_
    refine P_sto 141 [(6, .int (i32 (m.1 70))), (0, .ref 189), (1, .int (i32 (j 1))), (2, .long (i64 v2)), (4, .long (i64 v4))] rfl (fun _ => rfl) ?_
    refine P_ld 142 (.ref 189) rfl (fun _ => rfl) ?_
    refine P_ld 145 (.int (i32 405)) rfl (fun _ => rfl) ?_
    refine P_ld 146 (.long (i64 v2)) rfl (fun _ => rfl) ?_
    refine P_ld 148 (.long (i64 v4)) rfl (fun _ => rfl) ?_
    refine P_opl 149 (cutl (v2 - v4)) _ rfl (fun _ => rfl) p_sub ?_
    refine P_op 150 (cut (cutl (v2 - v4))) _ rfl (fun _ => rfl) o_l2i ?_
    refine P_ld 151 (.int (i32 1)) rfl (fun _ => rfl) ?_
    refine P_op 152 (cut ((cut (cutl (v2 - v4))) + 1)) _ rfl (fun _ => rfl) o_add ?_
    refine P_ld 154 (.long (i64 v4)) rfl (fun _ => rfl) ?_
    refine P_op 155 (cut v4) _ rfl (fun _ => rfl) o_l2i ?_
    refine P_ld 156 (.long (i64 0)) rfl (fun _ => rfl) ?_
    refine P_ca0 159 248 [.ref 189, .int (i32 405), .int (i32 (cut ((cut (cutl (v2 - v4))) + 1))), .int (i32 (cut v4)), .long (i64 0)] [] rfl (fun _ => rfl) rfl (D_node w m c N D hm 405 (cut ((cut (cutl (v2 - v4))) + 1)) (cut v4) 0 (l32 405 rfl) cut_r cut_r (l64 0 rfl)) (fun y14 n16 => ?_)
    refine P_lv (b := [(0, .ref 189), (1, .int (i32 (j 1))), (2, .long (i64 v2)), (4, .long (i64 v4)), (6, .int (i32 (m.1 70)))]) rfl rfl ⟨rfl, rfl, rfl, rfl, rfl, trivial⟩ ?_
    exact dg_after_159 w c N D bb v2 v4 (m.1 70) q2 q4 (Cn_i hm 70 rfl) y14.2 n16 (jk [(1, j 1)])
  · skip
    exact P_re0 rfl rfl hm
def rfl_after_121 (v2 : Int) (v4 : Int) (m : mR) : Option (Int × mR) :=
  bnd (rf_need 93 m) fun y17 =>
  rfl_after_127 v2 v4 y17.2
theorem dg_after_121 (w : wX) (c : Nat → Option am_C) (N D : Nat) (bb : Nat) (v2 : Int) (v4 : Int) (q2 : R64 v2) (q4 : R64 v4) (m : mR) (hm : Cn m) (j : Nat → Int) : PP bb w D pm_255 (121, [(0, .ref 189), (1, .int (i32 (j 1))), (2, .long (i64 v2)), (4, .long (i64 v4))], [], (mhp m c, N), 0, 0) (QS (FR0 c N) (rfl_after_121 v2 v4 m)) := by
  unfold rfl_after_121
  show PP bb w D pm_255 (121, [(0, .ref 189), (1, .int (i32 (j 1))), (2, .long (i64 v2)), (4, .long (i64 v4))], [], (mhp (mO m [] []) c, N), 0, 0) _
  refine P_ld 122 (.ref 189) rfl (fun _ => rfl) ?_
  refine P_ld 124 (.int (i32 93)) rfl (fun _ => rfl) ?_
  refine P_ca0 127 232 [.ref 189, .int (i32 93)] [] rfl (fun _ => rfl) rfl (D_need w m c N D hm 93 (l32 93 rfl)) (fun y17 n19 => ?_)
  exact dg_after_127 w c N D bb v2 v4 q2 q4 y17.2 n19 (jk [(1, j 1)])
def rfl_after_117 (v1 : Int) (v2 : Int) (v4 : Int) (u1 : Int) (m : mR) : Option (Int × mR) :=
  bnd (rf_want u1 v1 m) fun y20 =>
  rfl_after_121 v2 v4 y20.2
theorem dg_after_117 (w : wX) (c : Nat → Option am_C) (N D : Nat) (bb : Nat) (v1 : Int) (v2 : Int) (v4 : Int) (u1 : Int) (q1 : R32 v1) (q2 : R64 v2) (q4 : R64 v4) (r1 : R32 u1) (m : mR) (hm : Cn m) (j : Nat → Int) : PP bb w D pm_255 (117, [(0, .ref 189), (1, .int (i32 v1)), (2, .long (i64 v2)), (4, .long (i64 v4))], [.int (i32 u1), .ref 189], (mhp m c, N), 0, 0) (QS (FR0 c N) (rfl_after_117 v1 v2 v4 u1 m)) := by
  unfold rfl_after_117
  show PP bb w D pm_255 (117, [(0, .ref 189), (1, .int (i32 v1)), (2, .long (i64 v2)), (4, .long (i64 v4))], [.int (i32 u1), .ref 189], (mhp (mO m [] []) c, N), 0, 0) _
  refine P_ld 118 (.int (i32 v1)) rfl (fun _ => rfl) ?_
  refine P_ca0 121 256 [.ref 189, .int (i32 u1), .int (i32 v1)] [] rfl (fun _ => rfl) rfl (D_want w m c N D hm u1 v1 r1 q1) (fun y20 n22 => ?_)
  exact dg_after_121 w c N D bb v2 v4 q2 q4 y20.2 n22 (jk [(1, v1)])
def rfl_after_116 (v1 : Int) (v2 : Int) (v4 : Int) (m : mR) : Option (Int × mR) :=
  rfl_after_117 v1 v2 v4 0 m
theorem dg_after_116 (w : wX) (c : Nat → Option am_C) (N D : Nat) (bb : Nat) (v1 : Int) (v2 : Int) (v4 : Int) (q1 : R32 v1) (q2 : R64 v2) (q4 : R64 v4) (m : mR) (hm : Cn m) (j : Nat → Int) : PP bb w D pm_255 (116, [(0, .ref 189), (1, .int (i32 v1)), (2, .long (i64 v2)), (4, .long (i64 v4))], [.ref 189], (mhp m c, N), 0, 0) (QS (FR0 c N) (rfl_after_116 v1 v2 v4 m)) := by
  unfold rfl_after_116
  show PP bb w D pm_255 (116, [(0, .ref 189), (1, .int (i32 v1)), (2, .long (i64 v2)), (4, .long (i64 v4))], [.ref 189], (mhp (mO m [] []) c, N), 0, 0) _
  refine P_ld 117 (.int (i32 0)) rfl (fun _ => rfl) ?_
  exact dg_after_117 w c N D bb v1 v2 v4 0 q1 q2 q4 (l32 0 rfl) m hm (jk [])
def rfl_after_74 (v1 : Int) (v2 : Int) (v4 : Int) (m : mR) : Option (Int × mR) :=
  if m.1 10 = 0 then
    if cmp64 v2 0 < 0 then
      rfl_after_116 v1 v2 v4 m
    else
      if cmp64 v4 0 < 0 then
        rfl_after_116 v1 v2 v4 m
      else
        if (0 : Int) < cmp64 v4 v2 then
          rfl_after_116 v1 v2 v4 m
        else
          if (0 : Int) ≤ cmp64 v2 (m.1 69) then
            rfl_after_116 v1 v2 v4 m
          else
            rfl_after_117 v1 v2 v4 1 m
  else
    rfl_after_121 v2 v4 m
theorem dg_after_74 (w : wX) (c : Nat → Option am_C) (N D : Nat) (bb : Nat) (v1 : Int) (v2 : Int) (v4 : Int) (q1 : R32 v1) (q2 : R64 v2) (q4 : R64 v4) (m : mR) (hm : Cn m) (j : Nat → Int) : PP bb w D pm_255 (74, [(0, .ref 189), (1, .int (i32 v1)), (2, .long (i64 v2)), (4, .long (i64 v4))], [], (mhp m c, N), 0, 0) (QS (FR0 c N) (rfl_after_74 v1 v2 v4 m)) := by
  unfold rfl_after_74
  show PP bb w D pm_255 (74, [(0, .ref 189), (1, .int (i32 v1)), (2, .long (i64 v2)), (4, .long (i64 v4))], [], (mhp (mO m [] []) c, N), 0, 0) _
  refine P_gf 78 (.int (i32 (m.1 10))) rfl rfl rfl rfl rfl rfl ?_
  refine P_ifE 121 81 rfl rfl rfl (Cn_i hm 10 rfl) rfl (fun h23 => ?_) (fun h23 => ?_)
  · skip
    refine P_ld 82 (.ref 189) rfl (fun _ => rfl) ?_
    refine P_ld 83 (.long (i64 v2)) rfl (fun _ => rfl) ?_
    refine P_ld 84 (.long (i64 0)) rfl (fun _ => rfl) ?_
    refine P_op 85 (cmp64 v2 0) _ rfl (fun _ => rfl) (o_cmp q2 (l64 0 rfl)) ?_
    refine P_ifF 116 88 rfl rfl rfl cmp64_r rfl (fun h24 => ?_) (fun h24 => ?_)
    · skip
      exact dg_after_116 w c N D bb v1 v2 v4 q1 q2 q4 m hm (jk [])
    · skip
      refine P_ld 90 (.long (i64 v4)) rfl (fun _ => rfl) ?_
      refine P_ld 91 (.long (i64 0)) rfl (fun _ => rfl) ?_
      refine P_op 92 (cmp64 v4 0) _ rfl (fun _ => rfl) (o_cmp q4 (l64 0 rfl)) ?_
      refine P_ifF 116 95 rfl rfl rfl cmp64_r rfl (fun h25 => ?_) (fun h25 => ?_)
      · skip
        exact dg_after_116 w c N D bb v1 v2 v4 q1 q2 q4 m hm (jk [])
      · skip
        refine P_ld 97 (.long (i64 v4)) rfl (fun _ => rfl) ?_
        refine P_ld 98 (.long (i64 v2)) rfl (fun _ => rfl) ?_
        refine P_op 99 (cmp64 v4 v2) _ rfl (fun _ => rfl) (o_cmp q4 q2) ?_
        refine P_ifF 116 102 rfl rfl rfl cmp64_r rfl (fun h26 => ?_) (fun h26 => ?_)
        · skip
          exact dg_after_116 w c N D bb v1 v2 v4 q1 q2 q4 m hm (jk [])
        · skip
          refine P_ld 103 (.long (i64 v2)) rfl (fun _ => rfl) ?_
          refine P_gf 107 (.int (i32 (m.1 69))) rfl rfl rfl rfl rfl rfl ?_
          refine P_opl 108 (m.1 69) _ rfl (fun _ => rfl) (o_i2l (Cn_i hm 69 rfl)) ?_
          refine P_op 109 (cmp64 v2 (m.1 69)) _ rfl (fun _ => rfl) (o_cmp q2 (R32_64 (Cn_i hm 69 rfl))) ?_
          refine P_ifF 116 112 rfl rfl rfl cmp64_r rfl (fun h27 => ?_) (fun h27 => ?_)
          · skip
            exact dg_after_116 w c N D bb v1 v2 v4 q1 q2 q4 m hm (jk [])
          · skip
            refine P_ld 113 (.int (i32 1)) rfl (fun _ => rfl) ?_
            refine P_goto 117 rfl (fun _ => rfl) ?_
            exact dg_after_117 w c N D bb v1 v2 v4 1 q1 q2 q4 (l32 1 rfl) m hm (jk [])
  · skip
    exact dg_after_121 w c N D bb v2 v4 q2 q4 m hm (jk [(1, v1)])
def rfl_after_64 (v1 : Int) (v2 : Int) (m : mR) : Option (Int × mR) :=
  bnd (rf_next m) fun y28 =>
  rfl_after_74 v1 v2 (m.1 12) y28.2
theorem dg_after_64 (w : wX) (c : Nat → Option am_C) (N D : Nat) (bb : Nat) (v1 : Int) (v2 : Int) (q1 : R32 v1) (q2 : R64 v2) (m : mR) (hm : Cn m) (j : Nat → Int) : PP bb w D pm_255 (64, [(0, .ref 189), (1, .int (i32 v1)), (2, .long (i64 v2))], [], (mhp m c, N), 0, 0) (QS (FR0 c N) (rfl_after_64 v1 v2 m)) := by
  unfold rfl_after_64
  show PP bb w D pm_255 (64, [(0, .ref 189), (1, .int (i32 v1)), (2, .long (i64 v2))], [], (mhp (mO m [] []) c, N), 0, 0) _
  refine P_gf 68 (.long (i64 (m.1 12))) rfl rfl rfl rfl rfl rfl ?_
  refine P_sto 70 [(4, .long (i64 (m.1 12))), (0, .ref 189), (1, .int (i32 v1)), (2, .long (i64 v2))] rfl (fun _ => rfl) ?_
  refine P_ld 71 (.ref 189) rfl (fun _ => rfl) ?_
  refine P_ca0 74 212 [.ref 189] [] rfl (fun _ => rfl) rfl (D_next w m c N D hm) (fun y28 n30 => ?_)
  refine P_lv (b := [(0, .ref 189), (1, .int (i32 v1)), (2, .long (i64 v2)), (4, .long (i64 (m.1 12)))]) rfl rfl ⟨rfl, rfl, rfl, rfl, trivial⟩ ?_
  exact dg_after_74 w c N D bb v1 v2 (m.1 12) q1 q2 (Cn_l hm 12 rfl) y28.2 n30 (jk [])
def rfl_after_45 (v1 : Int) (v2 : Int) (m : mR) : Option (Int × mR) :=
  if m.1 10 = 0 then
    if m.1 7 = 2 then
      rfl_after_64 v1 v2 m
    else
      bnd (rf_bad m) fun y33 =>
      rfl_after_64 v1 v2 y33.2
  else
    rfl_after_64 v1 v2 m
theorem dg_after_45 (w : wX) (c : Nat → Option am_C) (N D : Nat) (bb : Nat) (v1 : Int) (v2 : Int) (q1 : R32 v1) (q2 : R64 v2) (m : mR) (hm : Cn m) (j : Nat → Int) : PP bb w D pm_255 (45, [(0, .ref 189), (1, .int (i32 v1)), (2, .long (i64 v2))], [], (mhp m c, N), 0, 0) (QS (FR0 c N) (rfl_after_45 v1 v2 m)) := by
  unfold rfl_after_45
  show PP bb w D pm_255 (45, [(0, .ref 189), (1, .int (i32 v1)), (2, .long (i64 v2))], [], (mhp (mO m [] []) c, N), 0, 0) _
  refine P_gf 49 (.int (i32 (m.1 10))) rfl rfl rfl rfl rfl rfl ?_
  refine P_ifE 64 52 rfl rfl rfl (Cn_i hm 10 rfl) rfl (fun h31 => ?_) (fun h31 => ?_)
  · skip
    refine P_gf 56 (.int (i32 (m.1 7))) rfl rfl rfl rfl rfl rfl ?_
    refine P_ld 57 (.int (i32 2)) rfl (fun _ => rfl) ?_
    refine P_icF 64 60 rfl rfl rfl (Cn_i hm 7 rfl) (l32 2 rfl) rfl (fun h32 => ?_) (fun h32 => ?_)
    · skip
      exact dg_after_64 w c N D bb v1 v2 q1 q2 m hm (jk [])
    · skip
      refine P_ld 61 (.ref 189) rfl (fun _ => rfl) ?_
      refine P_ca0 64 226 [.ref 189] [] rfl (fun _ => rfl) rfl (D_bad w m c N D hm) (fun y33 n35 => ?_)
      exact dg_after_64 w c N D bb v1 v2 q1 q2 y33.2 n35 (jk [])
  · skip
    exact dg_after_64 w c N D bb v1 v2 q1 q2 m hm (jk [])
def rfl_after_39 (v1 : Int) (v2 : Int) (m : mR) : Option (Int × mR) :=
  bnd (rf_need 58 m) fun y36 =>
  rfl_after_45 v1 v2 y36.2
theorem dg_after_39 (w : wX) (c : Nat → Option am_C) (N D : Nat) (bb : Nat) (v1 : Int) (v2 : Int) (q1 : R32 v1) (q2 : R64 v2) (m : mR) (hm : Cn m) (j : Nat → Int) : PP bb w D pm_255 (39, [(0, .ref 189), (1, .int (i32 v1)), (2, .long (i64 v2))], [], (mhp m c, N), 0, 0) (QS (FR0 c N) (rfl_after_39 v1 v2 m)) := by
  unfold rfl_after_39
  show PP bb w D pm_255 (39, [(0, .ref 189), (1, .int (i32 v1)), (2, .long (i64 v2))], [], (mhp (mO m [] []) c, N), 0, 0) _
  refine P_ld 40 (.ref 189) rfl (fun _ => rfl) ?_
  refine P_ld 42 (.int (i32 58)) rfl (fun _ => rfl) ?_
  refine P_ca0 45 232 [.ref 189, .int (i32 58)] [] rfl (fun _ => rfl) rfl (D_need w m c N D hm 58 (l32 58 rfl)) (fun y36 n38 => ?_)
  exact dg_after_45 w c N D bb v1 v2 q1 q2 y36.2 n38 (jk [])
def rfl_after_30 (v1 : Int) (m : mR) : Option (Int × mR) :=
  bnd (rf_next m) fun y39 =>
  rfl_after_39 v1 (m.1 12) y39.2
theorem dg_after_30 (w : wX) (c : Nat → Option am_C) (N D : Nat) (bb : Nat) (v1 : Int) (q1 : R32 v1) (m : mR) (hm : Cn m) (j : Nat → Int) : PP bb w D pm_255 (30, [(0, .ref 189), (1, .int (i32 v1))], [], (mhp m c, N), 0, 0) (QS (FR0 c N) (rfl_after_30 v1 m)) := by
  unfold rfl_after_30
  show PP bb w D pm_255 (30, [(0, .ref 189), (1, .int (i32 v1))], [], (mhp (mO m [] []) c, N), 0, 0) _
  refine P_gf 34 (.long (i64 (m.1 12))) rfl rfl rfl rfl rfl rfl ?_
  refine P_sto 35 [(2, .long (i64 (m.1 12))), (0, .ref 189), (1, .int (i32 v1))] rfl (fun _ => rfl) ?_
  refine P_ld 36 (.ref 189) rfl (fun _ => rfl) ?_
  refine P_ca0 39 212 [.ref 189] [] rfl (fun _ => rfl) rfl (D_next w m c N D hm) (fun y39 n41 => ?_)
  refine P_lv (b := [(0, .ref 189), (1, .int (i32 v1)), (2, .long (i64 (m.1 12)))]) rfl rfl ⟨rfl, rfl, rfl, trivial⟩ ?_
  exact dg_after_39 w c N D bb v1 (m.1 12) q1 (Cn_l hm 12 rfl) y39.2 n41 (jk [])
def rfl_after_13 (m : mR) : Option (Int × mR) :=
  if m.1 7 = 2 then
    rfl_after_30 (m.1 8) m
  else
    bnd (rf_bad m) fun y43 =>
    rfl_after_30 (m.1 8) y43.2
theorem dg_after_13 (w : wX) (c : Nat → Option am_C) (N D : Nat) (bb : Nat) (m : mR) (hm : Cn m) (j : Nat → Int) : PP bb w D pm_255 (13, [(0, .ref 189)], [], (mhp m c, N), 0, 0) (QS (FR0 c N) (rfl_after_13 m)) := by
  unfold rfl_after_13
  show PP bb w D pm_255 (13, [(0, .ref 189)], [], (mhp (mO m [] []) c, N), 0, 0) _
  refine P_gf 17 (.int (i32 (m.1 8))) rfl rfl rfl rfl rfl rfl ?_
  refine P_sto 18 [(1, .int (i32 (m.1 8))), (0, .ref 189)] rfl (fun _ => rfl) ?_
  refine P_gf 22 (.int (i32 (m.1 7))) rfl rfl rfl rfl rfl rfl ?_
  refine P_ld 23 (.int (i32 2)) rfl (fun _ => rfl) ?_
  refine P_icF 30 26 rfl rfl rfl (Cn_i hm 7 rfl) (l32 2 rfl) rfl (fun h42 => ?_) (fun h42 => ?_)
  · skip
    refine P_lv (b := [(0, .ref 189), (1, .int (i32 (m.1 8)))]) rfl rfl ⟨rfl, rfl, trivial⟩ ?_
    exact dg_after_30 w c N D bb (m.1 8) (Cn_i hm 8 rfl) m hm (jk [])
  · skip
    refine P_ld 27 (.ref 189) rfl (fun _ => rfl) ?_
    refine P_ca0 30 226 [.ref 189] [] rfl (fun _ => rfl) rfl (D_bad w m c N D hm) (fun y43 n45 => ?_)
    refine P_lv (b := [(0, .ref 189), (1, .int (i32 (m.1 8)))]) rfl rfl ⟨rfl, rfl, trivial⟩ ?_
    exact dg_after_30 w c N D bb (m.1 8) (Cn_i hm 8 rfl) y43.2 n45 (jk [])
def rf_after (m : mR) : Option (Int × mR) :=
  if m.1 7 = 91 then
    bnd (rf_next m) fun y51 =>
    rfl_after_13 y51.2
  else
    if m.1 7 = 330 then
      bnd (rf_next m) fun y48 =>
      rfl_after_189 y48.2
    else
      some (0, (mO m [(75, 2)] []))
theorem D_after (w : wX) (m : mR) (c : Nat → Option am_C) (N D : Nat) (hm : Cn m) : PC w D 255 [.ref 189] (mhp m c, N) (QS (FR0 c N) (rf_after m)) := by
  refine Pc_of (fun D bb => ?_) D
  unfold rf_after
  show PP bb w D pm_255 (0, [(0, .ref 189)], [], (mhp (mO m [] []) c, N), 0, 0) _
  refine P_gf 4 (.int (i32 (m.1 7))) rfl rfl rfl rfl rfl rfl ?_
  refine P_ld 6 (.int (i32 91)) rfl (fun _ => rfl) ?_
  refine P_icE 175 9 rfl rfl rfl (Cn_i hm 7 rfl) (l32 91 rfl) rfl (fun h46 => ?_) (fun h46 => ?_)
  · skip
    refine P_ld 10 (.ref 189) rfl (fun _ => rfl) ?_
    refine P_ca0 13 212 [.ref 189] [] rfl (fun _ => rfl) rfl (D_next w m c N D hm) (fun y51 n53 => ?_)
    exact dg_after_13 w c N D bb y51.2 n53 (jk [])
  · skip
    refine P_gf 179 (.int (i32 (m.1 7))) rfl rfl rfl rfl rfl rfl ?_
    refine P_ld 182 (.int (i32 330)) rfl (fun _ => rfl) ?_
    refine P_icE 219 185 rfl rfl rfl (Cn_i hm 7 rfl) (l32 330 rfl) rfl (fun h47 => ?_) (fun h47 => ?_)
    · skip
      refine P_ld 186 (.ref 189) rfl (fun _ => rfl) ?_
      refine P_ca0 189 212 [.ref 189] [] rfl (fun _ => rfl) rfl (D_next w m c N D hm) (fun y48 n50 => ?_)
      exact dg_after_189 w c N D bb y48.2 n50 (jk [])
    · skip
      refine P_ld 220 (.ref 189) rfl (fun _ => rfl) ?_
      refine P_ld 221 (.int (i32 2)) rfl (fun _ => rfl) ?_
      refine P_pf (l' := [(75, 2)]) 224 2 rfl rfl rfl rfl rfl rfl ?_
      exact P_re0 rfl rfl (Cn_mO hm ⟨(rV_i rfl (l32 2 rfl)), trivial⟩ trivial)
def rfl_wantBit_31 (v5 : Int) (u1 : Int) (m : mR) : Option (Int × mR) :=
  bnd (rf_want u1 v5 m) fun y1 =>
  some (0, y1.2)
theorem dg_wantBit_31 (w : wX) (c : Nat → Option am_C) (N D : Nat) (bb : Nat) (v5 : Int) (u1 : Int) (q5 : R32 v5) (r1 : R32 u1) (m : mR) (hm : Cn m) (j : Nat → Int) : PP bb w D pm_258 (31, [(0, .ref 189), (1, .int (i32 (j 1))), (2, .int (i32 (j 2))), (3, .long (i64 (j 3))), (5, .int (i32 v5))], [.int (i32 u1), .ref 189], (mhp m c, N), 0, 0) (QS (FR0 c N) (rfl_wantBit_31 v5 u1 m)) := by
  unfold rfl_wantBit_31
  show PP bb w D pm_258 (31, [(0, .ref 189), (1, .int (i32 (j 1))), (2, .int (i32 (j 2))), (3, .long (i64 (j 3))), (5, .int (i32 v5))], [.int (i32 u1), .ref 189], (mhp (mO m [] []) c, N), 0, 0) _
  refine P_ld 33 (.int (i32 v5)) rfl (fun _ => rfl) ?_
  refine P_ca0 36 256 [.ref 189, .int (i32 u1), .int (i32 v5)] [] rfl (fun _ => rfl) rfl (D_want w m c N D hm u1 v5 r1 q5) (fun y1 n3 => ?_)
  exact P_re0 rfl rfl n3
def rf_wantBit (v1 : Int) (v2 : Int) (v3 : Int) (v5 : Int) (m : mR) : Option (Int × mR) :=
  if v2 = 0 then
    if v1 = 1 then
      rfl_wantBit_31 v5 1 m
    else
      rfl_wantBit_31 v5 0 m
  else
    if cmp64 (ushr64 v3 1) 0 = 0 then
      rfl_wantBit_31 v5 1 m
    else
      rfl_wantBit_31 v5 0 m
theorem D_wantBit (w : wX) (m : mR) (c : Nat → Option am_C) (N D : Nat) (hm : Cn m) (v1 : Int) (v2 : Int) (v3 : Int) (v5 : Int) (q1 : R32 v1) (q2 : R32 v2) (q3 : R64 v3) (q5 : R32 v5) : PC w D 258 [.ref 189, .int (i32 v1), .int (i32 v2), .long (i64 v3), .int (i32 v5)] (mhp m c, N) (QS (FR0 c N) (rf_wantBit v1 v2 v3 v5 m)) := by
  refine Pc_of (fun D bb => ?_) D
  unfold rf_wantBit
  show PP bb w D pm_258 (0, [(0, .ref 189), (1, .int (i32 v1)), (2, .int (i32 v2)), (3, .long (i64 v3)), (5, .int (i32 v5))], [], (mhp (mO m [] []) c, N), 0, 0) _
  refine P_ld 1 (.ref 189) rfl (fun _ => rfl) ?_
  refine P_ld 2 (.int (i32 v2)) rfl (fun _ => rfl) ?_
  refine P_ifF 21 5 rfl rfl rfl q2 rfl (fun h4 => ?_) (fun h4 => ?_)
  · skip
    refine P_ld 22 (.int (i32 v1)) rfl (fun _ => rfl) ?_
    refine P_ld 23 (.int (i32 1)) rfl (fun _ => rfl) ?_
    refine P_icE 30 26 rfl rfl rfl q1 (l32 1 rfl) rfl (fun h5 => ?_) (fun h5 => ?_)
    · skip
      refine P_ld 27 (.int (i32 1)) rfl (fun _ => rfl) ?_
      refine P_goto 31 rfl (fun _ => rfl) ?_
      exact dg_wantBit_31 w c N D bb v5 1 q5 (l32 1 rfl) m hm (jk [(1, v1), (2, v2), (3, v3)])
    · skip
      refine P_ld 31 (.int (i32 0)) rfl (fun _ => rfl) ?_
      exact dg_wantBit_31 w c N D bb v5 0 q5 (l32 0 rfl) m hm (jk [(1, v1), (2, v2), (3, v3)])
  · skip
    refine P_ld 6 (.long (i64 v3)) rfl (fun _ => rfl) ?_
    refine P_ld 7 (.int (i32 1)) rfl (fun _ => rfl) ?_
    refine P_opl 8 (ushr64 v3 1) _ rfl (fun _ => rfl) (Int64.ofInt_toInt _).symm ?_
    refine P_ld 9 (.long (i64 0)) rfl (fun _ => rfl) ?_
    refine P_op 10 (cmp64 (ushr64 v3 1) 0) _ rfl (fun _ => rfl) (o_cmp t64_r (l64 0 rfl)) ?_
    refine P_ifE 17 13 rfl rfl rfl cmp64_r rfl (fun h6 => ?_) (fun h6 => ?_)
    · skip
      refine P_ld 14 (.int (i32 1)) rfl (fun _ => rfl) ?_
      refine P_goto 31 rfl (fun _ => rfl) ?_
      exact dg_wantBit_31 w c N D bb v5 1 q5 (l32 1 rfl) m hm (jk [(1, v1), (2, v2), (3, v3)])
    · skip
      refine P_ld 18 (.int (i32 0)) rfl (fun _ => rfl) ?_
      refine P_goto 31 rfl (fun _ => rfl) ?_
      exact dg_wantBit_31 w c N D bb v5 0 q5 (l32 0 rfl) m hm (jk [(1, v1), (2, v2), (3, v3)])
def rf_level (v0 : Int) : Option Int :=
  if v0 = 4 then
    some 2
  else
    if v0 = 5 then
      some 2
    else
      if v0 = 6 then
        some 2
      else
        if v0 = 7 then
          some 2
        else
          if v0 = 8 then
            some 8
          else
            if v0 = 9 then
              some 1
            else
              if v0 = 10 then
                some 0
              else
                if v0 = 11 then
                  some 6
                else
                  if v0 = 12 then
                    some 6
                  else
                    if v0 = 38 then
                      some 5
                    else
                      if v0 = 43 then
                        some 7
                      else
                        if v0 = 45 then
                          some 7
                        else
                          if v0 = 60 then
                            some 2
                          else
                            if v0 = 62 then
                              some 2
                            else
                              if v0 = 94 then
                                some 4
                              else
                                if v0 = 124 then
                                  some 3
                                else
                                  some (-1)
theorem D_level (w : wX) (t : af_T) (D : Nat) (v0 : Int) (q0 : R32 v0) : PC w D 259 [.int (i32 v0)] t (QS (FP1 t) (rf_level v0)) := by
  refine Pc_of (fun D bb => ?_) D
  unfold rf_level
  show PP bb w D pm_259 (0, [(0, .int (i32 v0))], [], t, 0, 0) _
  refine P_ld 1 (.int (i32 v0)) rfl (fun _ => rfl) ?_
  refine P_cs (fun h1 => ?_) (fun h1 => ?_)
  · skip
    refine P_cast 4 h1 ?_
    refine P_pop 144 rfl (fun _ => rfl) ?_
    refine P_ld 145 (.int (i32 2)) rfl (fun _ => rfl) ?_
    exact P_rp1 rfl (l32 2 rfl)
  · skip
    refine P_cs (fun h2 => ?_) (fun h2 => ?_)
    · skip
      refine P_cast 5 h2 ?_
      refine P_pop 144 rfl (fun _ => rfl) ?_
      refine P_ld 145 (.int (i32 2)) rfl (fun _ => rfl) ?_
      exact P_rp1 rfl (l32 2 rfl)
    · skip
      refine P_cs (fun h3 => ?_) (fun h3 => ?_)
      · skip
        refine P_cast 6 h3 ?_
        refine P_pop 144 rfl (fun _ => rfl) ?_
        refine P_ld 145 (.int (i32 2)) rfl (fun _ => rfl) ?_
        exact P_rp1 rfl (l32 2 rfl)
      · skip
        refine P_cs (fun h4 => ?_) (fun h4 => ?_)
        · skip
          refine P_cast 7 h4 ?_
          refine P_pop 144 rfl (fun _ => rfl) ?_
          refine P_ld 145 (.int (i32 2)) rfl (fun _ => rfl) ?_
          exact P_rp1 rfl (l32 2 rfl)
        · skip
          refine P_cs (fun h5 => ?_) (fun h5 => ?_)
          · skip
            refine P_cast 8 h5 ?_
            refine P_pop 158 rfl (fun _ => rfl) ?_
            refine P_ld 160 (.int (i32 8)) rfl (fun _ => rfl) ?_
            exact P_rp1 rfl (l32 8 rfl)
          · skip
            refine P_cs (fun h6 => ?_) (fun h6 => ?_)
            · skip
              refine P_cast 9 h6 ?_
              refine P_pop 142 rfl (fun _ => rfl) ?_
              refine P_ld 143 (.int (i32 1)) rfl (fun _ => rfl) ?_
              exact P_rp1 rfl (l32 1 rfl)
            · skip
              refine P_cs (fun h7 => ?_) (fun h7 => ?_)
              · skip
                refine P_cast 10 h7 ?_
                refine P_pop 140 rfl (fun _ => rfl) ?_
                refine P_ld 141 (.int (i32 0)) rfl (fun _ => rfl) ?_
                exact P_rp1 rfl (l32 0 rfl)
              · skip
                refine P_cs (fun h8 => ?_) (fun h8 => ?_)
                · skip
                  refine P_cast 11 h8 ?_
                  refine P_pop 152 rfl (fun _ => rfl) ?_
                  refine P_ld 154 (.int (i32 6)) rfl (fun _ => rfl) ?_
                  exact P_rp1 rfl (l32 6 rfl)
                · skip
                  refine P_cs (fun h9 => ?_) (fun h9 => ?_)
                  · skip
                    refine P_cast 12 h9 ?_
                    refine P_pop 152 rfl (fun _ => rfl) ?_
                    refine P_ld 154 (.int (i32 6)) rfl (fun _ => rfl) ?_
                    exact P_rp1 rfl (l32 6 rfl)
                  · skip
                    refine P_cs (fun h10 => ?_) (fun h10 => ?_)
                    · skip
                      refine P_cast 38 h10 ?_
                      refine P_pop 150 rfl (fun _ => rfl) ?_
                      refine P_ld 151 (.int (i32 5)) rfl (fun _ => rfl) ?_
                      exact P_rp1 rfl (l32 5 rfl)
                    · skip
                      refine P_cs (fun h11 => ?_) (fun h11 => ?_)
                      · skip
                        refine P_cast 43 h11 ?_
                        refine P_pop 155 rfl (fun _ => rfl) ?_
                        refine P_ld 157 (.int (i32 7)) rfl (fun _ => rfl) ?_
                        exact P_rp1 rfl (l32 7 rfl)
                      · skip
                        refine P_cs (fun h12 => ?_) (fun h12 => ?_)
                        · skip
                          refine P_cast 45 h12 ?_
                          refine P_pop 155 rfl (fun _ => rfl) ?_
                          refine P_ld 157 (.int (i32 7)) rfl (fun _ => rfl) ?_
                          exact P_rp1 rfl (l32 7 rfl)
                        · skip
                          refine P_cs (fun h13 => ?_) (fun h13 => ?_)
                          · skip
                            refine P_cast 60 h13 ?_
                            refine P_pop 144 rfl (fun _ => rfl) ?_
                            refine P_ld 145 (.int (i32 2)) rfl (fun _ => rfl) ?_
                            exact P_rp1 rfl (l32 2 rfl)
                          · skip
                            refine P_cs (fun h14 => ?_) (fun h14 => ?_)
                            · skip
                              refine P_cast 62 h14 ?_
                              refine P_pop 144 rfl (fun _ => rfl) ?_
                              refine P_ld 145 (.int (i32 2)) rfl (fun _ => rfl) ?_
                              exact P_rp1 rfl (l32 2 rfl)
                            · skip
                              refine P_cs (fun h15 => ?_) (fun h15 => ?_)
                              · skip
                                refine P_cast 94 h15 ?_
                                refine P_pop 148 rfl (fun _ => rfl) ?_
                                refine P_ld 149 (.int (i32 4)) rfl (fun _ => rfl) ?_
                                exact P_rp1 rfl (l32 4 rfl)
                              · skip
                                refine P_cs (fun h16 => ?_) (fun h16 => ?_)
                                · skip
                                  refine P_cast 124 h16 ?_
                                  refine P_pop 146 rfl (fun _ => rfl) ?_
                                  refine P_ld 147 (.int (i32 3)) rfl (fun _ => rfl) ?_
                                  exact P_rp1 rfl (l32 3 rfl)
                                · skip
                                  refine P_lkd 161 rfl rfl q0 (by simp [Op.lookupswitch.offset, h1, Ne.symm h1, h2, Ne.symm h2, h3, Ne.symm h3, h4, Ne.symm h4, h5, Ne.symm h5, h6, Ne.symm h6, h7, Ne.symm h7, h8, Ne.symm h8, h9, Ne.symm h9, h10, Ne.symm h10, h11, Ne.symm h11, h12, Ne.symm h12, h13, Ne.symm h13, h14, Ne.symm h14, h15, Ne.symm h15, h16, Ne.symm h16]) ?_
                                  refine P_ld 162 (.int (i32 (-1))) rfl (fun _ => rfl) ?_
                                  exact P_rp1 rfl (l32 (-1) rfl)
def rfl_fits_19 (u0 : Int) : Option Int :=
  some u0
theorem dg_fits_19 (w : wX) (t : af_T) (D : Nat) (bb : Nat) (u0 : Int) (r0 : R32 u0) (j : Nat → Int) : PP bb w D pm_262 (19, [(0, .long (i64 (j 0))), (2, .int (i32 (j 2)))], [.int (i32 u0)], t, 0, 0) (QS (FP1 t) (rfl_fits_19 u0)) := by
  unfold rfl_fits_19
  exact P_rp1 rfl r0
def rfl_fits_14 : Option Int :=
  rfl_fits_19 1
theorem dg_fits_14 (w : wX) (t : af_T) (D : Nat) (bb : Nat) (j : Nat → Int) : PP bb w D pm_262 (14, [(0, .long (i64 (j 0))), (2, .int (i32 (j 2)))], [], t, 0, 0) (QS (FP1 t) (rfl_fits_14)) := by
  unfold rfl_fits_14
  refine P_ld 15 (.int (i32 1)) rfl (fun _ => rfl) ?_
  refine P_goto 19 rfl (fun _ => rfl) ?_
  exact dg_fits_19 w t D bb 1 (l32 1 rfl) (jk [(0, j 0), (2, j 2)])
def rf_fits (v0 : Int) (v2 : Int) : Option Int :=
  if v2 = 64 then
    rfl_fits_14
  else
    if cmp64 (ushr64 v0 v2) 0 = 0 then
      rfl_fits_14
    else
      rfl_fits_19 0
theorem D_fits (w : wX) (t : af_T) (D : Nat) (v0 : Int) (v2 : Int) (q0 : R64 v0) (q2 : R32 v2) : PC w D 262 [.long (i64 v0), .int (i32 v2)] t (QS (FP1 t) (rf_fits v0 v2)) := by
  refine Pc_of (fun D bb => ?_) D
  unfold rf_fits
  show PP bb w D pm_262 (0, [(0, .long (i64 v0)), (2, .int (i32 v2))], [], t, 0, 0) _
  refine P_ld 1 (.int (i32 v2)) rfl (fun _ => rfl) ?_
  refine P_ld 3 (.int (i32 64)) rfl (fun _ => rfl) ?_
  refine P_icF 14 6 rfl rfl rfl q2 (l32 64 rfl) rfl (fun h1 => ?_) (fun h1 => ?_)
  · skip
    exact dg_fits_14 w t D bb (jk [(0, v0), (2, v2)])
  · skip
    refine P_ld 7 (.long (i64 v0)) rfl (fun _ => rfl) ?_
    refine P_ld 8 (.int (i32 v2)) rfl (fun _ => rfl) ?_
    refine P_opl 9 (ushr64 v0 v2) _ rfl (fun _ => rfl) (Int64.ofInt_toInt _).symm ?_
    refine P_ld 10 (.long (i64 0)) rfl (fun _ => rfl) ?_
    refine P_op 11 (cmp64 (ushr64 v0 v2) 0) _ rfl (fun _ => rfl) (o_cmp t64_r (l64 0 rfl)) ?_
    refine P_ifE 18 14 rfl rfl rfl cmp64_r rfl (fun h2 => ?_) (fun h2 => ?_)
    · skip
      exact dg_fits_14 w t D bb (jk [(0, v0), (2, v2)])
    · skip
      refine P_ld 19 (.int (i32 0)) rfl (fun _ => rfl) ?_
      exact dg_fits_19 w t D bb 0 (l32 0 rfl) (jk [(0, v0), (2, v2)])
end X26E
