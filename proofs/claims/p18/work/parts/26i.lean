noncomputable section X26I
def rfl_takeIndex_27 (v1 : Int) (m : mR) : Option (Int × mR) :=
  bnd (rf_need 93 (mO m [] [(106, upI (m.2 106) v1 (m.1 28))])) fun y1 =>
  some (0, y1.2)
theorem dg_takeIndex_27 (w : wX) (c : Nat → Option am_C) (N D : Nat) (bb : Nat) (v1 : Int) (q1 : R32 v1) (m : mR) (hm : Cn m) (j : Nat → Int) : PP bb w D pm_274 (27, [(0, .ref 189), (1, .int (i32 v1))], [], (mhp m c, N), 0, 0) (QS (FR0 c N) (rfl_takeIndex_27 v1 m)) := by
  unfold rfl_takeIndex_27
  show PP bb w D pm_274 (27, [(0, .ref 189), (1, .int (i32 v1))], [], (mhp (mO m [] []) c, N), 0, 0) _
  refine P_gf 31 (.ref 266) rfl rfl rfl rfl rfl rfl ?_
  refine P_ld 32 (.int (i32 v1)) rfl (fun _ => rfl) ?_
  refine P_gf 36 (.int (i32 (m.1 28))) rfl rfl rfl rfl rfl rfl ?_
  refine P_iast2 (a' := [(106, upI (m.2 106) v1 (m.1 28))]) 37 106 (m.2 106) rfl rfl rfl q1 rfl rfl ?_
  refine P_ld 38 (.ref 189) rfl (fun _ => rfl) ?_
  refine P_ld 40 (.int (i32 93)) rfl (fun _ => rfl) ?_
  refine P_ca0 43 232 [.ref 189, .int (i32 93)] [] rfl (fun _ => rfl) rfl (D_need w (mO m [] [(106, upI (m.2 106) v1 (m.1 28))]) c N D (Cn_mO hm trivial ⟨(rE_ui (Cn_a hm 106) rfl (Cn_i hm 28 rfl)), trivial⟩) 93 (l32 93 rfl)) (fun y1 n3 => ?_)
  exact P_re0 rfl rfl n3
def rfl_takeIndex_6 (v1 : Int) (m : mR) : Option (Int × mR) :=
  if m.1 10 = 0 then
    bnd (rf_readExpr (mO m [] [(105, upI (m.2 105) v1 (m.1 28))])) fun y5 =>
    rfl_takeIndex_27 v1 y5.2
  else
    rfl_takeIndex_27 v1 (mO m [] [(105, upI (m.2 105) v1 (m.1 28))])
theorem dg_takeIndex_6 (w : wX) (c : Nat → Option am_C) (N D : Nat) (bb : Nat) (v1 : Int) (q1 : R32 v1) (m : mR) (hm : Cn m) (j : Nat → Int) : PP bb w D pm_274 (6, [(0, .ref 189), (1, .int (i32 v1))], [], (mhp m c, N), 0, 0) (QS (FR0 c N) (rfl_takeIndex_6 v1 m)) := by
  unfold rfl_takeIndex_6
  show PP bb w D pm_274 (6, [(0, .ref 189), (1, .int (i32 v1))], [], (mhp (mO m [] []) c, N), 0, 0) _
  refine P_gf 10 (.ref 265) rfl rfl rfl rfl rfl rfl ?_
  refine P_ld 11 (.int (i32 v1)) rfl (fun _ => rfl) ?_
  refine P_gf 15 (.int (i32 (m.1 28))) rfl rfl rfl rfl rfl rfl ?_
  refine P_iast2 (a' := [(105, upI (m.2 105) v1 (m.1 28))]) 16 105 (m.2 105) rfl rfl rfl q1 rfl rfl ?_
  refine P_gf 20 (.int (i32 (m.1 10))) rfl rfl rfl rfl rfl rfl ?_
  refine P_ifE 27 23 rfl rfl rfl (Cn_i hm 10 rfl) rfl (fun h4 => ?_) (fun h4 => ?_)
  · skip
    refine P_ld 24 (.ref 189) rfl (fun _ => rfl) ?_
    refine P_ca0 27 244 [.ref 189] [] rfl (fun _ => rfl) rfl (D_readExpr w (mO m [] [(105, upI (m.2 105) v1 (m.1 28))]) c N D (Cn_mO hm trivial ⟨(rE_ui (Cn_a hm 105) rfl (Cn_i hm 28 rfl)), trivial⟩)) (fun y5 n7 => ?_)
    exact dg_takeIndex_27 w c N D bb v1 q1 y5.2 n7 (jk [])
  · skip
    exact dg_takeIndex_27 w c N D bb v1 q1 (mO m [] [(105, upI (m.2 105) v1 (m.1 28))]) (Cn_mO hm trivial ⟨(rE_ui (Cn_a hm 105) rfl (Cn_i hm 28 rfl)), trivial⟩) (jk [])
def rf_takeIndex (v1 : Int) (m : mR) : Option (Int × mR) :=
  bnd (rf_need 91 m) fun y8 =>
  rfl_takeIndex_6 v1 y8.2
theorem D_takeIndex (w : wX) (m : mR) (c : Nat → Option am_C) (N D : Nat) (hm : Cn m) (v1 : Int) (q1 : R32 v1) : PC w D 274 [.ref 189, .int (i32 v1)] (mhp m c, N) (QS (FR0 c N) (rf_takeIndex v1 m)) := by
  refine Pc_of (fun D bb => ?_) D
  unfold rf_takeIndex
  show PP bb w D pm_274 (0, [(0, .ref 189), (1, .int (i32 v1))], [], (mhp (mO m [] []) c, N), 0, 0) _
  refine P_ld 1 (.ref 189) rfl (fun _ => rfl) ?_
  refine P_ld 3 (.int (i32 91)) rfl (fun _ => rfl) ?_
  refine P_ca0 6 232 [.ref 189, .int (i32 91)] [] rfl (fun _ => rfl) rfl (D_need w m c N D hm 91 (l32 91 rfl)) (fun y8 n10 => ?_)
  exact dg_takeIndex_6 w c N D bb v1 q1 y8.2 n10 (jk [])
def rfl_takeStatement_229 (m : mR) : Option (Int × mR) :=
  bnd (rf_need 59 m) fun y1 =>
  some (0, y1.2)
theorem dg_takeStatement_229 (w : wX) (c : Nat → Option am_C) (N D : Nat) (bb : Nat) (m : mR) (hm : Cn m) (j : Nat → Int) : PP bb w D pm_270 (229, [(0, .ref 189), (1, .int (i32 (j 1))), (2, .int (i32 (j 2)))], [], (mhp m c, N), 0, 0) (QS (FR0 c N) (rfl_takeStatement_229 m)) := by
  unfold rfl_takeStatement_229
  show PP bb w D pm_270 (229, [(0, .ref 189), (1, .int (i32 (j 1))), (2, .int (i32 (j 2)))], [], (mhp (mO m [] []) c, N), 0, 0) _
  refine P_ld 230 (.ref 189) rfl (fun _ => rfl) ?_
  refine P_ld 232 (.int (i32 59)) rfl (fun _ => rfl) ?_
  refine P_ca0 235 232 [.ref 189, .int (i32 59)] [] rfl (fun _ => rfl) rfl (D_need w m c N D hm 59 (l32 59 rfl)) (fun y1 n3 => ?_)
  exact P_re0 rfl rfl n3
def rfl_takeStatement_228 (u1 : Int) (u2 : Int) (m : mR) : Option (Int × mR) :=
  rfl_takeStatement_229 (mO m [] [(104, upI (m.2 104) u1 u2)])
theorem dg_takeStatement_228 (w : wX) (c : Nat → Option am_C) (N D : Nat) (bb : Nat) (u1 : Int) (u2 : Int) (r1 : R32 u1) (r2 : R32 u2) (m : mR) (hm : Cn m) (j : Nat → Int) : PP bb w D pm_270 (228, [(0, .ref 189), (1, .int (i32 (j 1)))], [.int (i32 u2), .int (i32 u1), .ref 264], (mhp m c, N), 0, 0) (QS (FR0 c N) (rfl_takeStatement_228 u1 u2 m)) := by
  unfold rfl_takeStatement_228
  show PP bb w D pm_270 (228, [(0, .ref 189), (1, .int (i32 (j 1)))], [.int (i32 u2), .int (i32 u1), .ref 264], (mhp (mO m [] []) c, N), 0, 0) _
  refine P_iast2 (a' := [(104, upI (m.2 104) u1 u2)]) 229 104 (m.2 104) rfl rfl rfl r1 rfl rfl ?_
  refine P_lv (b := [(0, .ref 189), (1, .int (i32 (j 1))), (2, .int (i32 0))]) rfl rfl ⟨rfl, rfl, trivial⟩ ?_
  exact dg_takeStatement_229 w c N D bb (mO m [] [(104, upI (m.2 104) u1 u2)]) (Cn_mO hm trivial ⟨(rE_ui (Cn_a hm 104) rfl r2), trivial⟩) (jk [(1, j 1)])
def rfl_takeStatement_206 (v1 : Int) (m : mR) : Option (Int × mR) :=
  if (m.2 101) v1 = 326 then
    rfl_takeStatement_229 m
  else
    bnd (rf_oldName 2 m) fun y5 =>
    rfl_takeStatement_228 v1 y5.1 y5.2
theorem dg_takeStatement_206 (w : wX) (c : Nat → Option am_C) (N D : Nat) (bb : Nat) (v1 : Int) (q1 : R32 v1) (m : mR) (hm : Cn m) (j : Nat → Int) : PP bb w D pm_270 (206, [(0, .ref 189), (1, .int (i32 v1))], [], (mhp m c, N), 0, 0) (QS (FR0 c N) (rfl_takeStatement_206 v1 m)) := by
  unfold rfl_takeStatement_206
  show PP bb w D pm_270 (206, [(0, .ref 189), (1, .int (i32 v1))], [], (mhp (mO m [] []) c, N), 0, 0) _
  refine P_gf 210 (.ref 261) rfl rfl rfl rfl rfl rfl ?_
  refine P_ld 211 (.int (i32 v1)) rfl (fun _ => rfl) ?_
  refine P_iald2 212 101 (m.2 101) rfl rfl rfl q1 rfl ?_
  refine P_ld 215 (.int (i32 326)) rfl (fun _ => rfl) ?_
  refine P_icF 229 218 rfl rfl rfl (rE_i (Cn_a hm 101) rfl _) (l32 326 rfl) rfl (fun h4 => ?_) (fun h4 => ?_)
  · skip
    refine P_lv (b := [(0, .ref 189), (1, .int (i32 v1)), (2, .int (i32 0))]) rfl rfl ⟨rfl, rfl, trivial⟩ ?_
    exact dg_takeStatement_229 w c N D bb m hm (jk [(1, v1)])
  · skip
    refine P_gf 222 (.ref 264) rfl rfl rfl rfl rfl rfl ?_
    refine P_ld 223 (.int (i32 v1)) rfl (fun _ => rfl) ?_
    refine P_ld 224 (.ref 189) rfl (fun _ => rfl) ?_
    refine P_ld 225 (.int (i32 2)) rfl (fun _ => rfl) ?_
    refine P_ca1 228 236 [.ref 189, .int (i32 2)] [.int (i32 v1), .ref 264] rfl (fun _ => rfl) rfl (D_oldName w m c N D hm 2 (l32 2 rfl)) (fun y5 h6 n7 => ?_)
    exact dg_takeStatement_228 w c N D bb v1 y5.1 q1 h6 y5.2 n7 (jk [(1, v1)])
def rfl_takeStatement_176 (v1 : Int) (m : mR) : Option (Int × mR) :=
  if m.1 10 = 0 then
    bnd (rf_takeWorth v1 ((m.2 36) ((m.2 103) v1)) m) fun y9 =>
    rfl_takeStatement_229 y9.2
  else
    rfl_takeStatement_229 m
theorem dg_takeStatement_176 (w : wX) (c : Nat → Option am_C) (N D : Nat) (bb : Nat) (v1 : Int) (q1 : R32 v1) (m : mR) (hm : Cn m) (j : Nat → Int) : PP bb w D pm_270 (176, [(0, .ref 189), (1, .int (i32 v1))], [], (mhp m c, N), 0, 0) (QS (FR0 c N) (rfl_takeStatement_176 v1 m)) := by
  unfold rfl_takeStatement_176
  show PP bb w D pm_270 (176, [(0, .ref 189), (1, .int (i32 v1))], [], (mhp (mO m [] []) c, N), 0, 0) _
  refine P_gf 180 (.int (i32 (m.1 10))) rfl rfl rfl rfl rfl rfl ?_
  refine P_ifE 229 183 rfl rfl rfl (Cn_i hm 10 rfl) rfl (fun h8 => ?_) (fun h8 => ?_)
  · skip
    refine P_ld 184 (.ref 189) rfl (fun _ => rfl) ?_
    refine P_ld 185 (.int (i32 v1)) rfl (fun _ => rfl) ?_
    refine P_gf 189 (.ref 206) rfl rfl rfl rfl rfl rfl ?_
    refine P_gf 193 (.ref 263) rfl rfl rfl rfl rfl rfl ?_
    refine P_ld 194 (.int (i32 v1)) rfl (fun _ => rfl) ?_
    refine P_iald2 195 103 (m.2 103) rfl rfl rfl q1 rfl ?_
    refine P_iald2 196 36 (m.2 36) rfl rfl rfl (rE_i (Cn_a hm 103) rfl _) rfl ?_
    refine P_ca0 199 272 [.ref 189, .int (i32 v1), .int (i32 ((m.2 36) ((m.2 103) v1)))] [] rfl (fun _ => rfl) rfl (D_takeWorth w m c N D hm v1 ((m.2 36) ((m.2 103) v1)) q1 (rE_i (Cn_a hm 36) rfl _)) (fun y9 n11 => ?_)
    refine P_goto 229 rfl (fun _ => rfl) ?_
    refine P_lv (b := [(0, .ref 189), (1, .int (i32 v1)), (2, .int (i32 0))]) rfl rfl ⟨rfl, rfl, trivial⟩ ?_
    exact dg_takeStatement_229 w c N D bb y9.2 n11 (jk [(1, v1)])
  · skip
    refine P_lv (b := [(0, .ref 189), (1, .int (i32 v1)), (2, .int (i32 0))]) rfl rfl ⟨rfl, rfl, trivial⟩ ?_
    exact dg_takeStatement_229 w c N D bb m hm (jk [(1, v1)])
def rfl_takeStatement_170 (v1 : Int) (u1 : Int) (u2 : Int) (m : mR) : Option (Int × mR) :=
  bnd (rf_takeIndex v1 (mO m [] [(103, upI (m.2 103) u1 u2)])) fun y12 =>
  rfl_takeStatement_176 v1 y12.2
theorem dg_takeStatement_170 (w : wX) (c : Nat → Option am_C) (N D : Nat) (bb : Nat) (v1 : Int) (u1 : Int) (u2 : Int) (q1 : R32 v1) (r1 : R32 u1) (r2 : R32 u2) (m : mR) (hm : Cn m) (j : Nat → Int) : PP bb w D pm_270 (170, [(0, .ref 189), (1, .int (i32 v1))], [.int (i32 u2), .int (i32 u1), .ref 263], (mhp m c, N), 0, 0) (QS (FR0 c N) (rfl_takeStatement_170 v1 u1 u2 m)) := by
  unfold rfl_takeStatement_170
  show PP bb w D pm_270 (170, [(0, .ref 189), (1, .int (i32 v1))], [.int (i32 u2), .int (i32 u1), .ref 263], (mhp (mO m [] []) c, N), 0, 0) _
  refine P_iast2 (a' := [(103, upI (m.2 103) u1 u2)]) 171 103 (m.2 103) rfl rfl rfl r1 rfl rfl ?_
  refine P_ld 172 (.ref 189) rfl (fun _ => rfl) ?_
  refine P_ld 173 (.int (i32 v1)) rfl (fun _ => rfl) ?_
  refine P_ca0 176 274 [.ref 189, .int (i32 v1)] [] rfl (fun _ => rfl) rfl (D_takeIndex w (mO m [] [(103, upI (m.2 103) u1 u2)]) c N D (Cn_mO hm trivial ⟨(rE_ui (Cn_a hm 103) rfl r2), trivial⟩) v1 q1) (fun y12 n14 => ?_)
  exact dg_takeStatement_176 w c N D bb v1 q1 y12.2 n14 (jk [])
def rfl_takeStatement_160 (v1 : Int) (m : mR) : Option (Int × mR) :=
  bnd (rf_oldName 4 m) fun y15 =>
  rfl_takeStatement_170 v1 v1 y15.1 y15.2
theorem dg_takeStatement_160 (w : wX) (c : Nat → Option am_C) (N D : Nat) (bb : Nat) (v1 : Int) (q1 : R32 v1) (m : mR) (hm : Cn m) (j : Nat → Int) : PP bb w D pm_270 (160, [(0, .ref 189), (1, .int (i32 v1))], [], (mhp m c, N), 0, 0) (QS (FR0 c N) (rfl_takeStatement_160 v1 m)) := by
  unfold rfl_takeStatement_160
  show PP bb w D pm_270 (160, [(0, .ref 189), (1, .int (i32 v1))], [], (mhp (mO m [] []) c, N), 0, 0) _
  refine P_gf 164 (.ref 263) rfl rfl rfl rfl rfl rfl ?_
  refine P_ld 165 (.int (i32 v1)) rfl (fun _ => rfl) ?_
  refine P_ld 166 (.ref 189) rfl (fun _ => rfl) ?_
  refine P_ld 167 (.int (i32 4)) rfl (fun _ => rfl) ?_
  refine P_ca1 170 236 [.ref 189, .int (i32 4)] [.int (i32 v1), .ref 263] rfl (fun _ => rfl) rfl (D_oldName w m c N D hm 4 (l32 4 rfl)) (fun y15 h16 n17 => ?_)
  exact dg_takeStatement_170 w c N D bb v1 v1 y15.1 q1 q1 h16 y15.2 n17 (jk [])
def rfl_takeStatement_138 (v1 : Int) (m : mR) : Option (Int × mR) :=
  bnd (rf_takeIndex v1 m) fun y18 =>
  rfl_takeStatement_229 y18.2
theorem dg_takeStatement_138 (w : wX) (c : Nat → Option am_C) (N D : Nat) (bb : Nat) (v1 : Int) (q1 : R32 v1) (m : mR) (hm : Cn m) (j : Nat → Int) : PP bb w D pm_270 (138, [(0, .ref 189), (1, .int (i32 v1)), (2, .int (i32 (j 2)))], [], (mhp m c, N), 0, 0) (QS (FR0 c N) (rfl_takeStatement_138 v1 m)) := by
  unfold rfl_takeStatement_138
  show PP bb w D pm_270 (138, [(0, .ref 189), (1, .int (i32 v1)), (2, .int (i32 (j 2)))], [], (mhp (mO m [] []) c, N), 0, 0) _
  refine P_ld 139 (.ref 189) rfl (fun _ => rfl) ?_
  refine P_ld 140 (.int (i32 v1)) rfl (fun _ => rfl) ?_
  refine P_ca0 143 274 [.ref 189, .int (i32 v1)] [] rfl (fun _ => rfl) rfl (D_takeIndex w m c N D hm v1 q1) (fun y18 n20 => ?_)
  refine P_goto 229 rfl (fun _ => rfl) ?_
  exact dg_takeStatement_229 w c N D bb y18.2 n20 (jk [(1, v1), (2, j 2)])
def rfl_takeStatement_134 (v1 : Int) (v2 : Int) (u1 : Int) (m : mR) : Option (Int × mR) :=
  bnd (rf_want u1 v2 m) fun y21 =>
  rfl_takeStatement_138 v1 y21.2
theorem dg_takeStatement_134 (w : wX) (c : Nat → Option am_C) (N D : Nat) (bb : Nat) (v1 : Int) (v2 : Int) (u1 : Int) (q1 : R32 v1) (q2 : R32 v2) (r1 : R32 u1) (m : mR) (hm : Cn m) (j : Nat → Int) : PP bb w D pm_270 (134, [(0, .ref 189), (1, .int (i32 v1)), (2, .int (i32 v2))], [.int (i32 u1), .ref 189], (mhp m c, N), 0, 0) (QS (FR0 c N) (rfl_takeStatement_134 v1 v2 u1 m)) := by
  unfold rfl_takeStatement_134
  show PP bb w D pm_270 (134, [(0, .ref 189), (1, .int (i32 v1)), (2, .int (i32 v2))], [.int (i32 u1), .ref 189], (mhp (mO m [] []) c, N), 0, 0) _
  refine P_ld 135 (.int (i32 v2)) rfl (fun _ => rfl) ?_
  refine P_ca0 138 256 [.ref 189, .int (i32 u1), .int (i32 v2)] [] rfl (fun _ => rfl) rfl (D_want w m c N D hm u1 v2 r1 q2) (fun y21 n23 => ?_)
  exact dg_takeStatement_138 w c N D bb v1 q1 y21.2 n23 (jk [(2, v2)])
def rfl_takeStatement_102 (v1 : Int) (v2 : Int) (u1 : Int) (u2 : Int) (m : mR) : Option (Int × mR) :=
  if m.1 10 = 0 then
    if (m.2 36) ((upI (m.2 103) u1 u2) v1) = m.1 100 then
      rfl_takeStatement_134 v1 v2 1 (mO m [] [(103, upI (m.2 103) u1 u2)])
    else
      rfl_takeStatement_134 v1 v2 0 (mO m [] [(103, upI (m.2 103) u1 u2)])
  else
    rfl_takeStatement_138 v1 (mO m [] [(103, upI (m.2 103) u1 u2)])
theorem dg_takeStatement_102 (w : wX) (c : Nat → Option am_C) (N D : Nat) (bb : Nat) (v1 : Int) (v2 : Int) (u1 : Int) (u2 : Int) (q1 : R32 v1) (q2 : R32 v2) (r1 : R32 u1) (r2 : R32 u2) (m : mR) (hm : Cn m) (j : Nat → Int) : PP bb w D pm_270 (102, [(0, .ref 189), (1, .int (i32 v1)), (2, .int (i32 v2))], [.int (i32 u2), .int (i32 u1), .ref 263], (mhp m c, N), 0, 0) (QS (FR0 c N) (rfl_takeStatement_102 v1 v2 u1 u2 m)) := by
  unfold rfl_takeStatement_102
  show PP bb w D pm_270 (102, [(0, .ref 189), (1, .int (i32 v1)), (2, .int (i32 v2))], [.int (i32 u2), .int (i32 u1), .ref 263], (mhp (mO m [] []) c, N), 0, 0) _
  refine P_iast2 (a' := [(103, upI (m.2 103) u1 u2)]) 103 103 (m.2 103) rfl rfl rfl r1 rfl rfl ?_
  refine P_gf 107 (.int (i32 (m.1 10))) rfl rfl rfl rfl rfl rfl ?_
  refine P_ifE 138 110 rfl rfl rfl (Cn_i hm 10 rfl) rfl (fun h24 => ?_) (fun h24 => ?_)
  · skip
    refine P_ld 111 (.ref 189) rfl (fun _ => rfl) ?_
    refine P_gf 115 (.ref 206) rfl rfl rfl rfl rfl rfl ?_
    refine P_gf 119 (.ref 263) rfl rfl rfl rfl rfl rfl ?_
    refine P_ld 120 (.int (i32 v1)) rfl (fun _ => rfl) ?_
    refine P_iald2 121 103 (upI (m.2 103) u1 u2) rfl rfl rfl q1 rfl ?_
    refine P_iald2 122 36 (m.2 36) rfl rfl rfl (rE_i (rE_ui (Cn_a hm 103) rfl r2) rfl _) rfl ?_
    refine P_gf 126 (.int (i32 (m.1 100))) rfl rfl rfl rfl rfl rfl ?_
    refine P_icE 133 129 rfl rfl rfl (rE_i (Cn_a hm 36) rfl _) (Cn_i hm 100 rfl) rfl (fun h25 => ?_) (fun h25 => ?_)
    · skip
      refine P_ld 130 (.int (i32 1)) rfl (fun _ => rfl) ?_
      refine P_goto 134 rfl (fun _ => rfl) ?_
      exact dg_takeStatement_134 w c N D bb v1 v2 1 q1 q2 (l32 1 rfl) (mO m [] [(103, upI (m.2 103) u1 u2)]) (Cn_mO hm trivial ⟨(rE_ui (Cn_a hm 103) rfl r2), trivial⟩) (jk [])
    · skip
      refine P_ld 134 (.int (i32 0)) rfl (fun _ => rfl) ?_
      exact dg_takeStatement_134 w c N D bb v1 v2 0 q1 q2 (l32 0 rfl) (mO m [] [(103, upI (m.2 103) u1 u2)]) (Cn_mO hm trivial ⟨(rE_ui (Cn_a hm 103) rfl r2), trivial⟩) (jk [])
  · skip
    exact dg_takeStatement_138 w c N D bb v1 q1 (mO m [] [(103, upI (m.2 103) u1 u2)]) (Cn_mO hm trivial ⟨(rE_ui (Cn_a hm 103) rfl r2), trivial⟩) (jk [(2, v2)])
def rfl_takeStatement_86 (v1 : Int) (u1 : Int) (u2 : Int) (m : mR) : Option (Int × mR) :=
  bnd (rf_oldName 4 (mO m [] [(102, upI (m.2 102) u1 u2)])) fun y26 =>
  rfl_takeStatement_102 v1 (m.1 8) v1 y26.1 y26.2
theorem dg_takeStatement_86 (w : wX) (c : Nat → Option am_C) (N D : Nat) (bb : Nat) (v1 : Int) (u1 : Int) (u2 : Int) (q1 : R32 v1) (r1 : R32 u1) (r2 : R32 u2) (m : mR) (hm : Cn m) (j : Nat → Int) : PP bb w D pm_270 (86, [(0, .ref 189), (1, .int (i32 v1))], [.int (i32 u2), .int (i32 u1), .ref 262], (mhp m c, N), 0, 0) (QS (FR0 c N) (rfl_takeStatement_86 v1 u1 u2 m)) := by
  unfold rfl_takeStatement_86
  show PP bb w D pm_270 (86, [(0, .ref 189), (1, .int (i32 v1))], [.int (i32 u2), .int (i32 u1), .ref 262], (mhp (mO m [] []) c, N), 0, 0) _
  refine P_iast2 (a' := [(102, upI (m.2 102) u1 u2)]) 87 102 (m.2 102) rfl rfl rfl r1 rfl rfl ?_
  refine P_gf 91 (.int (i32 (m.1 8))) rfl rfl rfl rfl rfl rfl ?_
  refine P_sto 92 [(2, .int (i32 (m.1 8))), (0, .ref 189), (1, .int (i32 v1))] rfl (fun _ => rfl) ?_
  refine P_gf 96 (.ref 263) rfl rfl rfl rfl rfl rfl ?_
  refine P_ld 97 (.int (i32 v1)) rfl (fun _ => rfl) ?_
  refine P_ld 98 (.ref 189) rfl (fun _ => rfl) ?_
  refine P_ld 99 (.int (i32 4)) rfl (fun _ => rfl) ?_
  refine P_ca1 102 236 [.ref 189, .int (i32 4)] [.int (i32 v1), .ref 263] rfl (fun _ => rfl) rfl (D_oldName w (mO m [] [(102, upI (m.2 102) u1 u2)]) c N D (Cn_mO hm trivial ⟨(rE_ui (Cn_a hm 102) rfl r2), trivial⟩) 4 (l32 4 rfl)) (fun y26 h27 n28 => ?_)
  refine P_lv (b := [(0, .ref 189), (1, .int (i32 v1)), (2, .int (i32 (m.1 8)))]) rfl rfl ⟨rfl, rfl, rfl, trivial⟩ ?_
  exact dg_takeStatement_102 w c N D bb v1 (m.1 8) v1 y26.1 q1 (Cn_i hm 8 rfl) q1 h27 y26.2 n28 (jk [])
def rfl_takeStatement_77 (v1 : Int) (m : mR) : Option (Int × mR) :=
  bnd (rf_takePlace m) fun y29 =>
  rfl_takeStatement_86 v1 v1 y29.1 y29.2
theorem dg_takeStatement_77 (w : wX) (c : Nat → Option am_C) (N D : Nat) (bb : Nat) (v1 : Int) (q1 : R32 v1) (m : mR) (hm : Cn m) (j : Nat → Int) : PP bb w D pm_270 (77, [(0, .ref 189), (1, .int (i32 v1))], [], (mhp m c, N), 0, 0) (QS (FR0 c N) (rfl_takeStatement_77 v1 m)) := by
  unfold rfl_takeStatement_77
  show PP bb w D pm_270 (77, [(0, .ref 189), (1, .int (i32 v1))], [], (mhp (mO m [] []) c, N), 0, 0) _
  refine P_gf 81 (.ref 262) rfl rfl rfl rfl rfl rfl ?_
  refine P_ld 82 (.int (i32 v1)) rfl (fun _ => rfl) ?_
  refine P_ld 83 (.ref 189) rfl (fun _ => rfl) ?_
  refine P_ca1 86 271 [.ref 189] [.int (i32 v1), .ref 262] rfl (fun _ => rfl) rfl (D_takePlace w m c N D hm) (fun y29 h30 n31 => ?_)
  exact dg_takeStatement_86 w c N D bb v1 v1 y29.1 q1 q1 h30 y29.2 n31 (jk [])
def rfl_takeStatement_54 (v1 : Int) (v2 : Int) (m : mR) : Option (Int × mR) :=
  bnd (rf_takeWorth v1 v2 m) fun y32 =>
  rfl_takeStatement_229 y32.2
theorem dg_takeStatement_54 (w : wX) (c : Nat → Option am_C) (N D : Nat) (bb : Nat) (v1 : Int) (v2 : Int) (q1 : R32 v1) (q2 : R32 v2) (m : mR) (hm : Cn m) (j : Nat → Int) : PP bb w D pm_270 (54, [(0, .ref 189), (1, .int (i32 v1)), (2, .int (i32 v2))], [], (mhp m c, N), 0, 0) (QS (FR0 c N) (rfl_takeStatement_54 v1 v2 m)) := by
  unfold rfl_takeStatement_54
  show PP bb w D pm_270 (54, [(0, .ref 189), (1, .int (i32 v1)), (2, .int (i32 v2))], [], (mhp (mO m [] []) c, N), 0, 0) _
  refine P_ld 55 (.ref 189) rfl (fun _ => rfl) ?_
  refine P_ld 56 (.int (i32 v1)) rfl (fun _ => rfl) ?_
  refine P_ld 57 (.int (i32 v2)) rfl (fun _ => rfl) ?_
  refine P_ca0 60 272 [.ref 189, .int (i32 v1), .int (i32 v2)] [] rfl (fun _ => rfl) rfl (D_takeWorth w m c N D hm v1 v2 q1 q2) (fun y32 n34 => ?_)
  refine P_goto 229 rfl (fun _ => rfl) ?_
  exact dg_takeStatement_229 w c N D bb y32.2 n34 (jk [(1, v1), (2, v2)])
def rfl_takeStatement_42 (v1 : Int) (u1 : Int) (u2 : Int) (m : mR) : Option (Int × mR) :=
  bnd (rf_need 61 (mO m [] [(102, upI (m.2 102) u1 u2)])) fun y35 =>
  rfl_takeStatement_54 v1 (m.1 100) y35.2
theorem dg_takeStatement_42 (w : wX) (c : Nat → Option am_C) (N D : Nat) (bb : Nat) (v1 : Int) (u1 : Int) (u2 : Int) (q1 : R32 v1) (r1 : R32 u1) (r2 : R32 u2) (m : mR) (hm : Cn m) (j : Nat → Int) : PP bb w D pm_270 (42, [(0, .ref 189), (1, .int (i32 v1))], [.int (i32 u2), .int (i32 u1), .ref 262], (mhp m c, N), 0, 0) (QS (FR0 c N) (rfl_takeStatement_42 v1 u1 u2 m)) := by
  unfold rfl_takeStatement_42
  show PP bb w D pm_270 (42, [(0, .ref 189), (1, .int (i32 v1))], [.int (i32 u2), .int (i32 u1), .ref 262], (mhp (mO m [] []) c, N), 0, 0) _
  refine P_iast2 (a' := [(102, upI (m.2 102) u1 u2)]) 43 102 (m.2 102) rfl rfl rfl r1 rfl rfl ?_
  refine P_gf 47 (.int (i32 (m.1 100))) rfl rfl rfl rfl rfl rfl ?_
  refine P_sto 48 [(2, .int (i32 (m.1 100))), (0, .ref 189), (1, .int (i32 v1))] rfl (fun _ => rfl) ?_
  refine P_ld 49 (.ref 189) rfl (fun _ => rfl) ?_
  refine P_ld 51 (.int (i32 61)) rfl (fun _ => rfl) ?_
  refine P_ca0 54 232 [.ref 189, .int (i32 61)] [] rfl (fun _ => rfl) rfl (D_need w (mO m [] [(102, upI (m.2 102) u1 u2)]) c N D (Cn_mO hm trivial ⟨(rE_ui (Cn_a hm 102) rfl r2), trivial⟩) 61 (l32 61 rfl)) (fun y35 n37 => ?_)
  refine P_lv (b := [(0, .ref 189), (1, .int (i32 v1)), (2, .int (i32 (m.1 100)))]) rfl rfl ⟨rfl, rfl, rfl, trivial⟩ ?_
  exact dg_takeStatement_54 w c N D bb v1 (m.1 100) q1 (Cn_i hm 100 rfl) y35.2 n37 (jk [])
def rf_takeStatement (m : mR) : Option (Int × mR) :=
  if m.1 7 = 1 then
    bnd (rf_takePlace (mO m [(99, cut ((m.1 99) + 1))] [(101, upI (m.2 101) (m.1 99) (m.1 7))])) fun y50 =>
    rfl_takeStatement_42 (m.1 99) (m.1 99) y50.1 y50.2
  else
    if m.1 7 = 327 then
      bnd (rf_next (mO m [(99, cut ((m.1 99) + 1))] [(101, upI (m.2 101) (m.1 99) (m.1 7))])) fun y47 =>
      rfl_takeStatement_77 (m.1 99) y47.2
    else
      if m.1 7 = 328 then
        bnd (rf_next (mO m [(99, cut ((m.1 99) + 1))] [(101, upI (m.2 101) (m.1 99) (m.1 7))])) fun y44 =>
        rfl_takeStatement_160 (m.1 99) y44.2
      else
        bnd (rf_next (mO m [(99, cut ((m.1 99) + 1))] [(101, upI (m.2 101) (m.1 99) (m.1 7))])) fun y41 =>
        rfl_takeStatement_206 (m.1 99) y41.2
theorem D_takeStatement (w : wX) (m : mR) (c : Nat → Option am_C) (N D : Nat) (hm : Cn m) : PC w D 270 [.ref 189] (mhp m c, N) (QS (FR0 c N) (rf_takeStatement m)) := by
  refine Pc_of (fun D bb => ?_) D
  unfold rf_takeStatement
  show PP bb w D pm_270 (0, [(0, .ref 189)], [], (mhp (mO m [] []) c, N), 0, 0) _
  refine P_gf 4 (.int (i32 (m.1 99))) rfl rfl rfl rfl rfl rfl ?_
  refine P_sto 5 [(1, .int (i32 (m.1 99))), (0, .ref 189)] rfl (fun _ => rfl) ?_
  refine P_ld 6 (.ref 189) rfl (fun _ => rfl) ?_
  refine P_ld 7 (.ref 189) rfl (fun _ => rfl) ?_
  refine P_gf1 10 (.int (i32 (m.1 99))) rfl rfl rfl rfl ?_
  refine P_ld 11 (.int (i32 1)) rfl (fun _ => rfl) ?_
  refine P_op 12 (cut ((m.1 99) + 1)) _ rfl (fun _ => rfl) o_add ?_
  refine P_pf (l' := [(99, cut ((m.1 99) + 1))]) 15 (cut ((m.1 99) + 1)) rfl rfl rfl rfl rfl rfl ?_
  refine P_gf 19 (.ref 261) rfl rfl rfl rfl rfl rfl ?_
  refine P_ld 20 (.int (i32 (m.1 99))) rfl (fun _ => rfl) ?_
  refine P_gf 24 (.int (i32 (m.1 7))) rfl rfl rfl rfl rfl rfl ?_
  refine P_iast2 (a' := [(101, upI (m.2 101) (m.1 99) (m.1 7))]) 25 101 (m.2 101) rfl rfl rfl (Cn_i hm 99 rfl) rfl rfl ?_
  refine P_gf 29 (.int (i32 (m.1 7))) rfl rfl rfl rfl rfl rfl ?_
  refine P_ld 30 (.int (i32 1)) rfl (fun _ => rfl) ?_
  refine P_icE 63 33 rfl rfl rfl (Cn_i hm 7 rfl) (l32 1 rfl) rfl (fun h38 => ?_) (fun h38 => ?_)
  · skip
    refine P_gf 37 (.ref 262) rfl rfl rfl rfl rfl rfl ?_
    refine P_ld 38 (.int (i32 (m.1 99))) rfl (fun _ => rfl) ?_
    refine P_ld 39 (.ref 189) rfl (fun _ => rfl) ?_
    refine P_ca1 42 271 [.ref 189] [.int (i32 (m.1 99)), .ref 262] rfl (fun _ => rfl) rfl (D_takePlace w (mO m [(99, cut ((m.1 99) + 1))] [(101, upI (m.2 101) (m.1 99) (m.1 7))]) c N D (Cn_mO hm ⟨(rV_i rfl cut_r), trivial⟩ ⟨(rE_ui (Cn_a hm 101) rfl (Cn_i hm 7 rfl)), trivial⟩)) (fun y50 h51 n52 => ?_)
    refine P_lv (b := [(0, .ref 189), (1, .int (i32 (m.1 99)))]) rfl rfl ⟨rfl, rfl, trivial⟩ ?_
    exact dg_takeStatement_42 w c N D bb (m.1 99) (m.1 99) y50.1 (Cn_i hm 99 rfl) (Cn_i hm 99 rfl) h51 y50.2 n52 (jk [])
  · skip
    refine P_gf 67 (.int (i32 (m.1 7))) rfl rfl rfl rfl rfl rfl ?_
    refine P_ld 70 (.int (i32 327)) rfl (fun _ => rfl) ?_
    refine P_icE 146 73 rfl rfl rfl (Cn_i hm 7 rfl) (l32 327 rfl) rfl (fun h39 => ?_) (fun h39 => ?_)
    · skip
      refine P_ld 74 (.ref 189) rfl (fun _ => rfl) ?_
      refine P_ca0 77 212 [.ref 189] [] rfl (fun _ => rfl) rfl (D_next w (mO m [(99, cut ((m.1 99) + 1))] [(101, upI (m.2 101) (m.1 99) (m.1 7))]) c N D (Cn_mO hm ⟨(rV_i rfl cut_r), trivial⟩ ⟨(rE_ui (Cn_a hm 101) rfl (Cn_i hm 7 rfl)), trivial⟩)) (fun y47 n49 => ?_)
      refine P_lv (b := [(0, .ref 189), (1, .int (i32 (m.1 99)))]) rfl rfl ⟨rfl, rfl, trivial⟩ ?_
      exact dg_takeStatement_77 w c N D bb (m.1 99) (Cn_i hm 99 rfl) y47.2 n49 (jk [])
    · skip
      refine P_gf 150 (.int (i32 (m.1 7))) rfl rfl rfl rfl rfl rfl ?_
      refine P_ld 153 (.int (i32 328)) rfl (fun _ => rfl) ?_
      refine P_icE 202 156 rfl rfl rfl (Cn_i hm 7 rfl) (l32 328 rfl) rfl (fun h40 => ?_) (fun h40 => ?_)
      · skip
        refine P_ld 157 (.ref 189) rfl (fun _ => rfl) ?_
        refine P_ca0 160 212 [.ref 189] [] rfl (fun _ => rfl) rfl (D_next w (mO m [(99, cut ((m.1 99) + 1))] [(101, upI (m.2 101) (m.1 99) (m.1 7))]) c N D (Cn_mO hm ⟨(rV_i rfl cut_r), trivial⟩ ⟨(rE_ui (Cn_a hm 101) rfl (Cn_i hm 7 rfl)), trivial⟩)) (fun y44 n46 => ?_)
        refine P_lv (b := [(0, .ref 189), (1, .int (i32 (m.1 99)))]) rfl rfl ⟨rfl, rfl, trivial⟩ ?_
        exact dg_takeStatement_160 w c N D bb (m.1 99) (Cn_i hm 99 rfl) y44.2 n46 (jk [])
      · skip
        refine P_ld 203 (.ref 189) rfl (fun _ => rfl) ?_
        refine P_ca0 206 212 [.ref 189] [] rfl (fun _ => rfl) rfl (D_next w (mO m [(99, cut ((m.1 99) + 1))] [(101, upI (m.2 101) (m.1 99) (m.1 7))]) c N D (Cn_mO hm ⟨(rV_i rfl cut_r), trivial⟩ ⟨(rE_ui (Cn_a hm 101) rfl (Cn_i hm 7 rfl)), trivial⟩)) (fun y41 n43 => ?_)
        refine P_lv (b := [(0, .ref 189), (1, .int (i32 (m.1 99)))]) rfl rfl ⟨rfl, rfl, trivial⟩ ?_
        exact dg_takeStatement_206 w c N D bb (m.1 99) (Cn_i hm 99 rfl) y41.2 n43 (jk [])
def cs_takeAction_87 (s : Int × mR) : Prop := R32 s.1 ∧ Cn s.2
def cx_takeAction_87 : (mR) → Prop := (fun (e : mR) => Cn e)
def hd_takeAction_87 (c : Nat → Option am_C) (N : Nat) (v1 : Int) (s : Int × mR) (j : Nat → Int) : ag_St af_T := (87, [(0, .ref 189), (1, .int (i32 v1)), (2, .int (i32 s.1))], [], (mhp s.2 c, N), 0, 0)
def ex_takeAction_87 (c : Nat → Option am_C) (N : Nat) (v1 : Int) : (mR) → (Nat → Int) → ag_St af_T := (fun (e : mR) (j : Nat → Int) => ((136, [(0, .ref 189), (1, .int (i32 v1)), (2, .int (i32 (j 2)))], [], (mhp e c, N), 0, 0) : ag_St af_T))
def cs_takeAction_153 (s : mR) : Prop := Cn s
def cx_takeAction_153 : (mR) → Prop := (fun (e : mR) => Cn e)
def hd_takeAction_153 (c : Nat → Option am_C) (N : Nat) (v1 : Int) (s : mR) (j : Nat → Int) : ag_St af_T := (153, [(0, .ref 189), (1, .int (i32 v1)), (2, .int (i32 (j 2)))], [], (mhp s c, N), 0, 0)
def ex_takeAction_153 (c : Nat → Option am_C) (N : Nat) (v1 : Int) : (mR) → (Nat → Int) → ag_St af_T := (fun (e : mR) (j : Nat → Int) => ((211, [(0, .ref 189), (1, .int (i32 (j 1))), (2, .int (i32 (j 2)))], [], (mhp e c, N), 0, 0) : ag_St af_T))
def rfl_takeAction_211 (m : mR) : Option (Int × mR) :=
  bnd (rf_need 125 (mO m [(64, (-1))] [])) fun y3 =>
  some (0, y3.2)
theorem dg_takeAction_211 (w : wX) (c : Nat → Option am_C) (N D : Nat) (bb : Nat) (m : mR) (hm : Cn m) (j : Nat → Int) : PP bb w D pm_267 (211, [(0, .ref 189), (1, .int (i32 (j 1))), (2, .int (i32 (j 2)))], [], (mhp m c, N), 0, 0) (QS (FR0 c N) (rfl_takeAction_211 m)) := by
  unfold rfl_takeAction_211
  show PP bb w D pm_267 (211, [(0, .ref 189), (1, .int (i32 (j 1))), (2, .int (i32 (j 2)))], [], (mhp (mO m [] []) c, N), 0, 0) _
  refine P_ld 212 (.ref 189) rfl (fun _ => rfl) ?_
  refine P_ld 213 (.int (i32 (-1))) rfl (fun _ => rfl) ?_
  refine P_pf (l' := [(64, (-1))]) 216 (-1) rfl rfl rfl rfl rfl rfl ?_
  refine P_ld 217 (.ref 189) rfl (fun _ => rfl) ?_
  refine P_ld 219 (.int (i32 125)) rfl (fun _ => rfl) ?_
  refine P_ca0 222 232 [.ref 189, .int (i32 125)] [] rfl (fun _ => rfl) rfl (D_need w (mO m [(64, (-1))] []) c N D (Cn_mO hm ⟨(rV_i rfl (l32 (-1) rfl)), trivial⟩ trivial) 125 (l32 125 rfl)) (fun y3 n5 => ?_)
  exact P_re0 rfl rfl n5
def rfl_takeAction_198 (v1 : Int) (m : mR) : Option (Sum (mR) (mR)) :=
  some (.inl (mO m [] [(50, upI (m.2 50) v1 (cut (((m.2 50) v1) + 1)))]))
theorem dg_takeAction_198 (w : wX) (c : Nat → Option am_C) (N D : Nat) (bb : Nat) (v1 : Int) (q1 : R32 v1) (m : mR) (hm : Cn m) (j : Nat → Int) (Q2 : Sum (mR) (mR) → ag_Re af_T → Prop) (H1 : ∀ s j, cs_takeAction_153 s → PP bb w D pm_267 (hd_takeAction_153 c N v1 s j) (Q2 (.inl s))) (H2 : ∀ x j, cx_takeAction_153 x → PP bb w D pm_267 (ex_takeAction_153 c N v1 x j) (Q2 (.inr x))) : PP bb w D pm_267 (198, [(0, .ref 189), (1, .int (i32 v1)), (2, .int (i32 (j 2)))], [], (mhp m c, N), 0, 0) (QS Q2 (rfl_takeAction_198 v1 m)) := by
  unfold rfl_takeAction_198
  show PP bb w D pm_267 (198, [(0, .ref 189), (1, .int (i32 v1)), (2, .int (i32 (j 2)))], [], (mhp (mO m [] []) c, N), 0, 0) _
  refine P_gf 202 (.ref 220) rfl rfl rfl rfl rfl rfl ?_
  refine P_ld 203 (.int (i32 v1)) rfl (fun _ => rfl) ?_
  refine P_dup2 204 rfl (fun _ => rfl) ?_
  refine P_iald2 205 50 (m.2 50) rfl rfl rfl q1 rfl ?_
  refine P_ld 206 (.int (i32 1)) rfl (fun _ => rfl) ?_
  refine P_op 207 (cut (((m.2 50) v1) + 1)) _ rfl (fun _ => rfl) o_add ?_
  refine P_iast2 (a' := [(50, upI (m.2 50) v1 (cut (((m.2 50) v1) + 1)))]) 208 50 (m.2 50) rfl rfl rfl q1 rfl rfl ?_
  refine P_goto 153 rfl (fun _ => rfl) ?_
  refine P_some ?_
  exact H1 (mO m [] [(50, upI (m.2 50) v1 (cut (((m.2 50) v1) + 1)))]) (jk [(2, j 2)]) (Cn_mO hm trivial ⟨(rE_ui (Cn_a hm 50) rfl cut_r), trivial⟩)
def rfl_takeAction_187 (v1 : Int) (m : mR) : Option (Sum (mR) (mR)) :=
  if m.1 10 = 0 then
    bnd (rf_takeStatement m) fun y7 =>
    rfl_takeAction_198 v1 y7.2
  else
    rfl_takeAction_198 v1 m
theorem dg_takeAction_187 (w : wX) (c : Nat → Option am_C) (N D : Nat) (bb : Nat) (v1 : Int) (q1 : R32 v1) (m : mR) (hm : Cn m) (j : Nat → Int) (Q2 : Sum (mR) (mR) → ag_Re af_T → Prop) (H1 : ∀ s j, cs_takeAction_153 s → PP bb w D pm_267 (hd_takeAction_153 c N v1 s j) (Q2 (.inl s))) (H2 : ∀ x j, cx_takeAction_153 x → PP bb w D pm_267 (ex_takeAction_153 c N v1 x j) (Q2 (.inr x))) : PP bb w D pm_267 (187, [(0, .ref 189), (1, .int (i32 v1)), (2, .int (i32 (j 2)))], [], (mhp m c, N), 0, 0) (QS Q2 (rfl_takeAction_187 v1 m)) := by
  unfold rfl_takeAction_187
  show PP bb w D pm_267 (187, [(0, .ref 189), (1, .int (i32 v1)), (2, .int (i32 (j 2)))], [], (mhp (mO m [] []) c, N), 0, 0) _
  refine P_gf 191 (.int (i32 (m.1 10))) rfl rfl rfl rfl rfl rfl ?_
  refine P_ifE 198 194 rfl rfl rfl (Cn_i hm 10 rfl) rfl (fun h6 => ?_) (fun h6 => ?_)
  · skip
    refine P_ld 195 (.ref 189) rfl (fun _ => rfl) ?_
    refine P_ca0 198 270 [.ref 189] [] rfl (fun _ => rfl) rfl (D_takeStatement w m c N D hm) (fun y7 n9 => ?_)
    exact dg_takeAction_198 w c N D bb v1 q1 y7.2 n9 (jk [(2, j 2)]) Q2 H1 H2
  · skip
    exact dg_takeAction_198 w c N D bb v1 q1 m hm (jk [(2, j 2)]) Q2 H1 H2
def rfb_takeAction_153 (v1 : Int) (s : mR) : Option (Sum (mR) (mR)) :=
  if s.1 10 = 0 then
    bnd (rf_isStatement s) fun y12 =>
    if y12 = 0 then
      some (.inr s)
    else
      if (s.2 50) v1 = 12 then
        bnd (rf_wrong 4 (s.1 8) s) fun y16 =>
        rfl_takeAction_187 v1 y16.2
      else
        rfl_takeAction_187 v1 s
  else
    some (.inr s)
theorem dh_takeAction_153 (w : wX) (c : Nat → Option am_C) (N D : Nat) (v1 : Int) (q1 : R32 v1) (bb : Nat) (Q2 : Sum (mR) (mR) → ag_Re af_T → Prop) (H1 : ∀ s j, cs_takeAction_153 s → PP bb w D pm_267 (hd_takeAction_153 c N v1 s j) (Q2 (.inl s))) (H2 : ∀ x j, cx_takeAction_153 x → PP bb w D pm_267 (ex_takeAction_153 c N v1 x j) (Q2 (.inr x))) (s : mR) (j : Nat → Int) (hs : cs_takeAction_153 s) : PP (bb + 1) w D pm_267 (hd_takeAction_153 c N v1 s j) (QS Q2 (rfb_takeAction_153 v1 s)) := by
  have gm := hs
  unfold rfb_takeAction_153
  show PP (bb + 1) w D pm_267 (153, [(0, .ref 189), (1, .int (i32 v1)), (2, .int (i32 (j 2)))], [], (mhp (mO s [] []) c, N), 0, 0) _
  refine P1_ld 154 (.ref 189) rfl (fun _ => rfl) ?_
  refine P_gf1 157 (.int (i32 (s.1 10))) rfl rfl rfl rfl ?_
  refine P_ifE 211 160 rfl rfl rfl (Cn_i gm 10 rfl) rfl (fun h11 => ?_) (fun h11 => ?_)
  · skip
    refine P_ld 161 (.ref 189) rfl (fun _ => rfl) ?_
    refine P_cp1 164 269 [.ref 189] [] rfl (fun _ => rfl) rfl (D_isStatement w s c N D gm) (fun y12 h13 => ?_)
    refine P_ifF 211 167 rfl rfl rfl h13 rfl (fun h14 => ?_) (fun h14 => ?_)
    · skip
      refine P_some ?_
      exact H2 s (jk [(1, v1), (2, j 2)]) gm
    · skip
      refine P_gf 171 (.ref 220) rfl rfl rfl rfl rfl rfl ?_
      refine P_ld 172 (.int (i32 v1)) rfl (fun _ => rfl) ?_
      refine P_iald2 173 50 (s.2 50) rfl rfl rfl q1 rfl ?_
      refine P_ld 175 (.int (i32 12)) rfl (fun _ => rfl) ?_
      refine P_icE 187 178 rfl rfl rfl (rE_i (Cn_a gm 50) rfl _) (l32 12 rfl) rfl (fun h15 => ?_) (fun h15 => ?_)
      · skip
        refine P_ld 179 (.ref 189) rfl (fun _ => rfl) ?_
        refine P_ld 180 (.int (i32 4)) rfl (fun _ => rfl) ?_
        refine P_gf 184 (.int (i32 (s.1 8))) rfl rfl rfl rfl rfl rfl ?_
        refine P_ca0 187 222 [.ref 189, .int (i32 4), .int (i32 (s.1 8))] [] rfl (fun _ => rfl) rfl (D_wrong w s c N D gm 4 (s.1 8) (l32 4 rfl) (Cn_i gm 8 rfl)) (fun y16 n18 => ?_)
        exact dg_takeAction_187 w c N D bb v1 q1 y16.2 n18 (jk [(2, j 2)]) Q2 H1 H2
      · skip
        exact dg_takeAction_187 w c N D bb v1 q1 s gm (jk [(2, j 2)]) Q2 H1 H2
  · skip
    refine P_some ?_
    exact H2 s (jk [(1, v1), (2, j 2)]) gm
def rfl_takeAction_148 (v1 : Int) (m : mR) : Option (Int × mR) :=
  bnd (whl (rfb_takeAction_153 v1) (mO m [(64, v1)] [])) (fun e19 : mR =>
    rfl_takeAction_211 e19)
theorem dg_takeAction_148 (w : wX) (c : Nat → Option am_C) (N D : Nat) (bb : Nat) (v1 : Int) (q1 : R32 v1) (m : mR) (hm : Cn m) (j : Nat → Int) : PP bb w D pm_267 (148, [(0, .ref 189), (1, .int (i32 v1)), (2, .int (i32 (j 2)))], [], (mhp m c, N), 0, 0) (QS (FR0 c N) (rfl_takeAction_148 v1 m)) := by
  unfold rfl_takeAction_148
  show PP bb w D pm_267 (148, [(0, .ref 189), (1, .int (i32 v1)), (2, .int (i32 (j 2)))], [], (mhp (mO m [] []) c, N), 0, 0) _
  refine P_ld 149 (.ref 189) rfl (fun _ => rfl) ?_
  refine P_ld 150 (.int (i32 v1)) rfl (fun _ => rfl) ?_
  refine P_pf (l' := [(64, v1)]) 153 v1 rfl rfl rfl rfl rfl rfl ?_
  refine P_bnd ?_
  refine P_whl (fun bb Q2 H1 H2 s9 j9 hs9 => dh_takeAction_153 w c N D v1 q1 bb Q2 H1 H2 s9 j9 hs9) bb (fun e19 j q20 => ?_) (mO m [(64, v1)] []) (jk [(2, j 2)]) (Cn_mO hm ⟨(rV_i rfl q1), trivial⟩ trivial)
  have q21 := q20
  show PP bb w D pm_267 (211, [(0, .ref 189), (1, .int (i32 (j 1))), (2, .int (i32 (j 2)))], [], (mhp (mO e19 [] []) c, N), 0, 0) (QS _ (rfl_takeAction_211 e19))
  exact dg_takeAction_211 w c N D bb e19 q21 (jk [(1, j 1), (2, j 2)])
def rfl_takeAction_142 (v1 : Int) (m : mR) : Option (Int × mR) :=
  bnd (rf_need 123 m) fun y22 =>
  rfl_takeAction_148 v1 y22.2
theorem dg_takeAction_142 (w : wX) (c : Nat → Option am_C) (N D : Nat) (bb : Nat) (v1 : Int) (q1 : R32 v1) (m : mR) (hm : Cn m) (j : Nat → Int) : PP bb w D pm_267 (142, [(0, .ref 189), (1, .int (i32 v1)), (2, .int (i32 (j 2)))], [], (mhp m c, N), 0, 0) (QS (FR0 c N) (rfl_takeAction_142 v1 m)) := by
  unfold rfl_takeAction_142
  show PP bb w D pm_267 (142, [(0, .ref 189), (1, .int (i32 v1)), (2, .int (i32 (j 2)))], [], (mhp (mO m [] []) c, N), 0, 0) _
  refine P_ld 143 (.ref 189) rfl (fun _ => rfl) ?_
  refine P_ld 145 (.int (i32 123)) rfl (fun _ => rfl) ?_
  refine P_ca0 148 232 [.ref 189, .int (i32 123)] [] rfl (fun _ => rfl) rfl (D_need w m c N D hm 123 (l32 123 rfl)) (fun y22 n24 => ?_)
  exact dg_takeAction_148 w c N D bb v1 q1 y22.2 n24 (jk [(2, j 2)])
def rfl_takeAction_136 (v1 : Int) (m : mR) : Option (Int × mR) :=
  bnd (rf_need 41 m) fun y25 =>
  rfl_takeAction_142 v1 y25.2
theorem dg_takeAction_136 (w : wX) (c : Nat → Option am_C) (N D : Nat) (bb : Nat) (v1 : Int) (q1 : R32 v1) (m : mR) (hm : Cn m) (j : Nat → Int) : PP bb w D pm_267 (136, [(0, .ref 189), (1, .int (i32 v1)), (2, .int (i32 (j 2)))], [], (mhp m c, N), 0, 0) (QS (FR0 c N) (rfl_takeAction_136 v1 m)) := by
  unfold rfl_takeAction_136
  show PP bb w D pm_267 (136, [(0, .ref 189), (1, .int (i32 v1)), (2, .int (i32 (j 2)))], [], (mhp (mO m [] []) c, N), 0, 0) _
  refine P_ld 137 (.ref 189) rfl (fun _ => rfl) ?_
  refine P_ld 139 (.int (i32 41)) rfl (fun _ => rfl) ?_
  refine P_ca0 142 232 [.ref 189, .int (i32 41)] [] rfl (fun _ => rfl) rfl (D_need w m c N D hm 41 (l32 41 rfl)) (fun y25 n27 => ?_)
  exact dg_takeAction_142 w c N D bb v1 q1 y25.2 n27 (jk [(2, j 2)])
def rfl_takeAction_124 (v1 : Int) (u0 : Int) (m : mR) : Option (Sum (Int × mR) (mR)) :=
  if u0 = 0 then
    some (.inl (u0, m))
  else
    bnd (rf_next m) fun y29 =>
    some (.inl (u0, y29.2))
theorem dg_takeAction_124 (w : wX) (c : Nat → Option am_C) (N D : Nat) (bb : Nat) (v1 : Int) (u0 : Int) (q1 : R32 v1) (r0 : R32 u0) (m : mR) (hm : Cn m) (j : Nat → Int) (Q2 : Sum (Int × mR) (mR) → ag_Re af_T → Prop) (H1 : ∀ s j, cs_takeAction_87 s → PP bb w D pm_267 (hd_takeAction_87 c N v1 s j) (Q2 (.inl s))) (H2 : ∀ x j, cx_takeAction_87 x → PP bb w D pm_267 (ex_takeAction_87 c N v1 x j) (Q2 (.inr x))) : PP bb w D pm_267 (124, [(0, .ref 189), (1, .int (i32 v1)), (2, .int (i32 (j 2)))], [.int (i32 u0)], (mhp m c, N), 0, 0) (QS Q2 (rfl_takeAction_124 v1 u0 m)) := by
  unfold rfl_takeAction_124
  show PP bb w D pm_267 (124, [(0, .ref 189), (1, .int (i32 v1)), (2, .int (i32 (j 2)))], [.int (i32 u0)], (mhp (mO m [] []) c, N), 0, 0) _
  refine P_sto 125 [(2, .int (i32 u0)), (0, .ref 189), (1, .int (i32 v1))] rfl (fun _ => rfl) ?_
  refine P_ld 126 (.int (i32 u0)) rfl (fun _ => rfl) ?_
  refine P_ifF 87 129 rfl rfl rfl r0 rfl (fun h28 => ?_) (fun h28 => ?_)
  · skip
    refine P_some ?_
    refine P_lv (b := [(0, .ref 189), (1, .int (i32 v1)), (2, .int (i32 u0))]) rfl rfl ⟨rfl, rfl, rfl, trivial⟩ ?_
    exact H1 (u0, m) (jk []) ⟨r0, hm⟩
  · skip
    refine P_ld 130 (.ref 189) rfl (fun _ => rfl) ?_
    refine P_ca0 133 212 [.ref 189] [] rfl (fun _ => rfl) rfl (D_next w m c N D hm) (fun y29 n31 => ?_)
    refine P_goto 87 rfl (fun _ => rfl) ?_
    refine P_some ?_
    refine P_lv (b := [(0, .ref 189), (1, .int (i32 v1)), (2, .int (i32 u0))]) rfl rfl ⟨rfl, rfl, rfl, trivial⟩ ?_
    exact H1 (u0, y29.2) (jk []) ⟨r0, n31⟩
def rfl_takeAction_123 (v1 : Int) (m : mR) : Option (Sum (Int × mR) (mR)) :=
  rfl_takeAction_124 v1 0 m
theorem dg_takeAction_123 (w : wX) (c : Nat → Option am_C) (N D : Nat) (bb : Nat) (v1 : Int) (q1 : R32 v1) (m : mR) (hm : Cn m) (j : Nat → Int) (Q2 : Sum (Int × mR) (mR) → ag_Re af_T → Prop) (H1 : ∀ s j, cs_takeAction_87 s → PP bb w D pm_267 (hd_takeAction_87 c N v1 s j) (Q2 (.inl s))) (H2 : ∀ x j, cx_takeAction_87 x → PP bb w D pm_267 (ex_takeAction_87 c N v1 x j) (Q2 (.inr x))) : PP bb w D pm_267 (123, [(0, .ref 189), (1, .int (i32 v1)), (2, .int (i32 (j 2)))], [], (mhp m c, N), 0, 0) (QS Q2 (rfl_takeAction_123 v1 m)) := by
  unfold rfl_takeAction_123
  show PP bb w D pm_267 (123, [(0, .ref 189), (1, .int (i32 v1)), (2, .int (i32 (j 2)))], [], (mhp (mO m [] []) c, N), 0, 0) _
  refine P_ld 124 (.int (i32 0)) rfl (fun _ => rfl) ?_
  exact dg_takeAction_124 w c N D bb v1 0 q1 (l32 0 rfl) m hm (jk [(2, j 2)]) Q2 H1 H2
def rfl_takeAction_103 (v1 : Int) (m : mR) : Option (Sum (Int × mR) (mR)) :=
  if m.1 10 = 0 then
    if m.1 7 = 44 then
      rfl_takeAction_124 v1 1 m
    else
      rfl_takeAction_123 v1 m
  else
    rfl_takeAction_123 v1 m
theorem dg_takeAction_103 (w : wX) (c : Nat → Option am_C) (N D : Nat) (bb : Nat) (v1 : Int) (q1 : R32 v1) (m : mR) (hm : Cn m) (j : Nat → Int) (Q2 : Sum (Int × mR) (mR) → ag_Re af_T → Prop) (H1 : ∀ s j, cs_takeAction_87 s → PP bb w D pm_267 (hd_takeAction_87 c N v1 s j) (Q2 (.inl s))) (H2 : ∀ x j, cx_takeAction_87 x → PP bb w D pm_267 (ex_takeAction_87 c N v1 x j) (Q2 (.inr x))) : PP bb w D pm_267 (103, [(0, .ref 189), (1, .int (i32 v1)), (2, .int (i32 (j 2)))], [], (mhp m c, N), 0, 0) (QS Q2 (rfl_takeAction_103 v1 m)) := by
  unfold rfl_takeAction_103
  show PP bb w D pm_267 (103, [(0, .ref 189), (1, .int (i32 v1)), (2, .int (i32 (j 2)))], [], (mhp (mO m [] []) c, N), 0, 0) _
  refine P_gf 107 (.int (i32 (m.1 10))) rfl rfl rfl rfl rfl rfl ?_
  refine P_ifE 123 110 rfl rfl rfl (Cn_i hm 10 rfl) rfl (fun h32 => ?_) (fun h32 => ?_)
  · skip
    refine P_gf 114 (.int (i32 (m.1 7))) rfl rfl rfl rfl rfl rfl ?_
    refine P_ld 116 (.int (i32 44)) rfl (fun _ => rfl) ?_
    refine P_icE 123 119 rfl rfl rfl (Cn_i hm 7 rfl) (l32 44 rfl) rfl (fun h33 => ?_) (fun h33 => ?_)
    · skip
      refine P_ld 120 (.int (i32 1)) rfl (fun _ => rfl) ?_
      refine P_goto 124 rfl (fun _ => rfl) ?_
      exact dg_takeAction_124 w c N D bb v1 1 q1 (l32 1 rfl) m hm (jk [(2, j 2)]) Q2 H1 H2
    · skip
      exact dg_takeAction_123 w c N D bb v1 q1 m hm (jk [(2, j 2)]) Q2 H1 H2
  · skip
    exact dg_takeAction_123 w c N D bb v1 q1 m hm (jk [(2, j 2)]) Q2 H1 H2
def rfb_takeAction_87 (v1 : Int) (s : Int × mR) : Option (Sum (Int × mR) (mR)) :=
  if s.1 = 0 then
    some (.inr s.2)
  else
    if s.2.1 10 = 0 then
      bnd (rf_takeParameter v1 s.2) fun y37 =>
      rfl_takeAction_103 v1 y37.2
    else
      some (.inr s.2)
theorem dh_takeAction_87 (w : wX) (c : Nat → Option am_C) (N D : Nat) (v1 : Int) (q1 : R32 v1) (bb : Nat) (Q2 : Sum (Int × mR) (mR) → ag_Re af_T → Prop) (H1 : ∀ s j, cs_takeAction_87 s → PP bb w D pm_267 (hd_takeAction_87 c N v1 s j) (Q2 (.inl s))) (H2 : ∀ x j, cx_takeAction_87 x → PP bb w D pm_267 (ex_takeAction_87 c N v1 x j) (Q2 (.inr x))) (s : Int × mR) (j : Nat → Int) (hs : cs_takeAction_87 s) : PP (bb + 1) w D pm_267 (hd_takeAction_87 c N v1 s j) (QS Q2 (rfb_takeAction_87 v1 s)) := by
  obtain ⟨g2, gm⟩ := hs
  unfold rfb_takeAction_87
  show PP (bb + 1) w D pm_267 (87, [(0, .ref 189), (1, .int (i32 v1)), (2, .int (i32 s.1))], [], (mhp (mO s.2 [] []) c, N), 0, 0) _
  refine P1_ld 88 (.int (i32 s.1)) rfl (fun _ => rfl) ?_
  refine P_ifF 136 91 rfl rfl rfl g2 rfl (fun h35 => ?_) (fun h35 => ?_)
  · skip
    refine P_some ?_
    exact H2 s.2 (jk [(2, s.1)]) gm
  · skip
    refine P_gf 95 (.int (i32 (s.2.1 10))) rfl rfl rfl rfl rfl rfl ?_
    refine P_ifE 136 98 rfl rfl rfl (Cn_i gm 10 rfl) rfl (fun h36 => ?_) (fun h36 => ?_)
    · skip
      refine P_ld 99 (.ref 189) rfl (fun _ => rfl) ?_
      refine P_ld 100 (.int (i32 v1)) rfl (fun _ => rfl) ?_
      refine P_ca0 103 268 [.ref 189, .int (i32 v1)] [] rfl (fun _ => rfl) rfl (D_takeParameter w s.2 c N D gm v1 q1) (fun y37 n39 => ?_)
      exact dg_takeAction_103 w c N D bb v1 q1 y37.2 n39 (jk [(2, s.1)]) Q2 H1 H2
    · skip
      refine P_some ?_
      exact H2 s.2 (jk [(2, s.1)]) gm
def rfl_takeAction_86 (v1 : Int) (u0 : Int) (m : mR) : Option (Int × mR) :=
  bnd (whl (rfb_takeAction_87 v1) (u0, m)) (fun e40 : mR =>
    rfl_takeAction_136 v1 e40)
theorem dg_takeAction_86 (w : wX) (c : Nat → Option am_C) (N D : Nat) (bb : Nat) (v1 : Int) (u0 : Int) (q1 : R32 v1) (r0 : R32 u0) (m : mR) (hm : Cn m) (j : Nat → Int) : PP bb w D pm_267 (86, [(0, .ref 189), (1, .int (i32 v1))], [.int (i32 u0)], (mhp m c, N), 0, 0) (QS (FR0 c N) (rfl_takeAction_86 v1 u0 m)) := by
  unfold rfl_takeAction_86
  show PP bb w D pm_267 (86, [(0, .ref 189), (1, .int (i32 v1))], [.int (i32 u0)], (mhp (mO m [] []) c, N), 0, 0) _
  refine P_sto 87 [(2, .int (i32 u0)), (0, .ref 189), (1, .int (i32 v1))] rfl (fun _ => rfl) ?_
  refine P_lv (b := [(0, .ref 189), (1, .int (i32 v1)), (2, .int (i32 u0))]) rfl rfl ⟨rfl, rfl, rfl, trivial⟩ ?_
  refine P_bnd ?_
  refine P_whl (fun bb Q2 H1 H2 s9 j9 hs9 => dh_takeAction_87 w c N D v1 q1 bb Q2 H1 H2 s9 j9 hs9) bb (fun e40 j q41 => ?_) (u0, m) (jk []) ⟨r0, hm⟩
  have q42 := q41
  show PP bb w D pm_267 (136, [(0, .ref 189), (1, .int (i32 v1)), (2, .int (i32 (j 2)))], [], (mhp (mO e40 [] []) c, N), 0, 0) (QS _ (rfl_takeAction_136 v1 e40))
  exact dg_takeAction_136 w c N D bb v1 q1 e40 q42 (jk [(2, j 2)])
def rfl_takeAction_85 (v1 : Int) (m : mR) : Option (Int × mR) :=
  rfl_takeAction_86 v1 0 m
theorem dg_takeAction_85 (w : wX) (c : Nat → Option am_C) (N D : Nat) (bb : Nat) (v1 : Int) (q1 : R32 v1) (m : mR) (hm : Cn m) (j : Nat → Int) : PP bb w D pm_267 (85, [(0, .ref 189), (1, .int (i32 v1))], [], (mhp m c, N), 0, 0) (QS (FR0 c N) (rfl_takeAction_85 v1 m)) := by
  unfold rfl_takeAction_85
  show PP bb w D pm_267 (85, [(0, .ref 189), (1, .int (i32 v1))], [], (mhp (mO m [] []) c, N), 0, 0) _
  refine P_ld 86 (.int (i32 0)) rfl (fun _ => rfl) ?_
  exact dg_takeAction_86 w c N D bb v1 0 q1 (l32 0 rfl) m hm (jk [])
def rfl_takeAction_65 (v1 : Int) (m : mR) : Option (Int × mR) :=
  if m.1 10 = 0 then
    if m.1 7 = 41 then
      rfl_takeAction_85 v1 m
    else
      rfl_takeAction_86 v1 1 m
  else
    rfl_takeAction_85 v1 m
theorem dg_takeAction_65 (w : wX) (c : Nat → Option am_C) (N D : Nat) (bb : Nat) (v1 : Int) (q1 : R32 v1) (m : mR) (hm : Cn m) (j : Nat → Int) : PP bb w D pm_267 (65, [(0, .ref 189), (1, .int (i32 v1))], [], (mhp m c, N), 0, 0) (QS (FR0 c N) (rfl_takeAction_65 v1 m)) := by
  unfold rfl_takeAction_65
  show PP bb w D pm_267 (65, [(0, .ref 189), (1, .int (i32 v1))], [], (mhp (mO m [] []) c, N), 0, 0) _
  refine P_gf 69 (.int (i32 (m.1 10))) rfl rfl rfl rfl rfl rfl ?_
  refine P_ifE 85 72 rfl rfl rfl (Cn_i hm 10 rfl) rfl (fun h43 => ?_) (fun h43 => ?_)
  · skip
    refine P_gf 76 (.int (i32 (m.1 7))) rfl rfl rfl rfl rfl rfl ?_
    refine P_ld 78 (.int (i32 41)) rfl (fun _ => rfl) ?_
    refine P_icF 85 81 rfl rfl rfl (Cn_i hm 7 rfl) (l32 41 rfl) rfl (fun h44 => ?_) (fun h44 => ?_)
    · skip
      exact dg_takeAction_85 w c N D bb v1 q1 m hm (jk [])
    · skip
      refine P_ld 82 (.int (i32 1)) rfl (fun _ => rfl) ?_
      refine P_goto 86 rfl (fun _ => rfl) ?_
      exact dg_takeAction_86 w c N D bb v1 1 q1 (l32 1 rfl) m hm (jk [])
  · skip
    exact dg_takeAction_85 w c N D bb v1 q1 m hm (jk [])
def rfl_takeAction_16 (u0 : Int) (m : mR) : Option (Int × mR) :=
  if u0 = 0 then
    some (0, m)
  else
    bnd (rf_need 40 (mO m [(25, cut ((m.1 25) + 1))] [(46, upI (m.2 46) (m.1 25) 0), (50, upI (m.2 50) (m.1 25) 0), (109, upI (m.2 109) (m.1 25) (m.1 99))])) fun y46 =>
    rfl_takeAction_65 (m.1 25) y46.2
theorem dg_takeAction_16 (w : wX) (c : Nat → Option am_C) (N D : Nat) (bb : Nat) (u0 : Int) (r0 : R32 u0) (m : mR) (hm : Cn m) (j : Nat → Int) : PP bb w D pm_267 (16, [(0, .ref 189)], [.int (i32 u0)], (mhp m c, N), 0, 0) (QS (FR0 c N) (rfl_takeAction_16 u0 m)) := by
  unfold rfl_takeAction_16
  show PP bb w D pm_267 (16, [(0, .ref 189)], [.int (i32 u0)], (mhp (mO m [] []) c, N), 0, 0) _
  refine P_ifE 20 19 rfl rfl rfl r0 rfl (fun h45 => ?_) (fun h45 => ?_)
  · skip
    exact P_re0 rfl rfl hm
  · skip
    refine P_gf 24 (.int (i32 (m.1 25))) rfl rfl rfl rfl rfl rfl ?_
    refine P_sto 25 [(1, .int (i32 (m.1 25))), (0, .ref 189)] rfl (fun _ => rfl) ?_
    refine P_ld 26 (.ref 189) rfl (fun _ => rfl) ?_
    refine P_ld 27 (.ref 189) rfl (fun _ => rfl) ?_
    refine P_gf1 30 (.int (i32 (m.1 25))) rfl rfl rfl rfl ?_
    refine P_ld 31 (.int (i32 1)) rfl (fun _ => rfl) ?_
    refine P_op 32 (cut ((m.1 25) + 1)) _ rfl (fun _ => rfl) o_add ?_
    refine P_pf (l' := [(25, cut ((m.1 25) + 1))]) 35 (cut ((m.1 25) + 1)) rfl rfl rfl rfl rfl rfl ?_
    refine P_gf 39 (.ref 269) rfl rfl rfl rfl rfl rfl ?_
    refine P_ld 40 (.int (i32 (m.1 25))) rfl (fun _ => rfl) ?_
    refine P_gf 44 (.int (i32 (m.1 99))) rfl rfl rfl rfl rfl rfl ?_
    refine P_iast2 (a' := [(109, upI (m.2 109) (m.1 25) (m.1 99))]) 45 109 (m.2 109) rfl rfl rfl (Cn_i hm 25 rfl) rfl rfl ?_
    refine P_gf 49 (.ref 216) rfl rfl rfl rfl rfl rfl ?_
    refine P_ld 50 (.int (i32 (m.1 25))) rfl (fun _ => rfl) ?_
    refine P_ld 51 (.int (i32 0)) rfl (fun _ => rfl) ?_
    refine P_iast2 (a' := [(46, upI (m.2 46) (m.1 25) 0), (109, upI (m.2 109) (m.1 25) (m.1 99))]) 52 46 (m.2 46) rfl rfl rfl (Cn_i hm 25 rfl) rfl rfl ?_
    refine P_gf 56 (.ref 220) rfl rfl rfl rfl rfl rfl ?_
    refine P_ld 57 (.int (i32 (m.1 25))) rfl (fun _ => rfl) ?_
    refine P_ld 58 (.int (i32 0)) rfl (fun _ => rfl) ?_
    refine P_iast2 (a' := [(46, upI (m.2 46) (m.1 25) 0), (50, upI (m.2 50) (m.1 25) 0), (109, upI (m.2 109) (m.1 25) (m.1 99))]) 59 50 (m.2 50) rfl rfl rfl (Cn_i hm 25 rfl) rfl rfl ?_
    refine P_ld 60 (.ref 189) rfl (fun _ => rfl) ?_
    refine P_ld 62 (.int (i32 40)) rfl (fun _ => rfl) ?_
    refine P_ca0 65 232 [.ref 189, .int (i32 40)] [] rfl (fun _ => rfl) rfl (D_need w (mO m [(25, cut ((m.1 25) + 1))] [(46, upI (m.2 46) (m.1 25) 0), (50, upI (m.2 50) (m.1 25) 0), (109, upI (m.2 109) (m.1 25) (m.1 99))]) c N D (Cn_mO hm ⟨(rV_i rfl cut_r), trivial⟩ ⟨(rE_ui (Cn_a hm 46) rfl (l32 0 rfl)), (rE_ui (Cn_a hm 50) rfl (l32 0 rfl)), (rE_ui (Cn_a hm 109) rfl (Cn_i hm 99 rfl)), trivial⟩) 40 (l32 40 rfl)) (fun y46 n48 => ?_)
    refine P_lv (b := [(0, .ref 189), (1, .int (i32 (m.1 25)))]) rfl rfl ⟨rfl, rfl, trivial⟩ ?_
    exact dg_takeAction_65 w c N D bb (m.1 25) (Cn_i hm 25 rfl) y46.2 n48 (jk [])
def rfl_takeAction_4 (m : mR) : Option (Int × mR) :=
  bnd (rf_newName 6 (m.1 25) 16 m) fun y49 =>
  rfl_takeAction_16 y49.1 y49.2
theorem dg_takeAction_4 (w : wX) (c : Nat → Option am_C) (N D : Nat) (bb : Nat) (m : mR) (hm : Cn m) (j : Nat → Int) : PP bb w D pm_267 (4, [(0, .ref 189)], [], (mhp m c, N), 0, 0) (QS (FR0 c N) (rfl_takeAction_4 m)) := by
  unfold rfl_takeAction_4
  show PP bb w D pm_267 (4, [(0, .ref 189)], [], (mhp (mO m [] []) c, N), 0, 0) _
  refine P_ld 5 (.ref 189) rfl (fun _ => rfl) ?_
  refine P_ld 7 (.int (i32 6)) rfl (fun _ => rfl) ?_
  refine P_gf 11 (.int (i32 (m.1 25))) rfl rfl rfl rfl rfl rfl ?_
  refine P_ld 13 (.int (i32 16)) rfl (fun _ => rfl) ?_
  refine P_ca1 16 225 [.ref 189, .int (i32 6), .int (i32 (m.1 25)), .int (i32 16)] [] rfl (fun _ => rfl) rfl (D_newName w m c N D hm 6 (m.1 25) 16 (l32 6 rfl) (Cn_i hm 25 rfl) (l32 16 rfl)) (fun y49 h50 n51 => ?_)
  exact dg_takeAction_16 w c N D bb y49.1 h50 y49.2 n51 (jk [])
def rf_takeAction (m : mR) : Option (Int × mR) :=
  bnd (rf_next m) fun y52 =>
  rfl_takeAction_4 y52.2
theorem D_takeAction (w : wX) (m : mR) (c : Nat → Option am_C) (N D : Nat) (hm : Cn m) : PC w D 267 [.ref 189] (mhp m c, N) (QS (FR0 c N) (rf_takeAction m)) := by
  refine Pc_of (fun D bb => ?_) D
  unfold rf_takeAction
  show PP bb w D pm_267 (0, [(0, .ref 189)], [], (mhp (mO m [] []) c, N), 0, 0) _
  refine P_ld 1 (.ref 189) rfl (fun _ => rfl) ?_
  refine P_ca0 4 212 [.ref 189] [] rfl (fun _ => rfl) rfl (D_next w m c N D hm) (fun y52 n54 => ?_)
  exact dg_takeAction_4 w c N D bb y52.2 n54 (jk [])
end X26I
