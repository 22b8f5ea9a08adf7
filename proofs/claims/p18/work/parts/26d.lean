noncomputable section X26D
def rfl_takeMeta_47 (m : mR) : Option (Int × mR) :=
  some (0, (mO m [(21, cut ((m.1 21) + 1))] []))
theorem dg_takeMeta_47 (w : wX) (c : Nat → Option am_C) (N D : Nat) (bb : Nat) (m : mR) (hm : Cn m) (j : Nat → Int) : PP bb w D pm_238 (47, [(0, .ref 189)], [], (mhp m c, N), 0, 0) (QS (FR0 c N) (rfl_takeMeta_47 m)) := by
  unfold rfl_takeMeta_47
  show PP bb w D pm_238 (47, [(0, .ref 189)], [], (mhp (mO m [] []) c, N), 0, 0) _
  refine P_ld 48 (.ref 189) rfl (fun _ => rfl) ?_
  refine P_ld 49 (.ref 189) rfl (fun _ => rfl) ?_
  refine P_gf1 52 (.int (i32 (m.1 21))) rfl rfl rfl rfl ?_
  refine P_ld 53 (.int (i32 1)) rfl (fun _ => rfl) ?_
  refine P_op 54 (cut ((m.1 21) + 1)) _ rfl (fun _ => rfl) o_add ?_
  refine P_pf (l' := [(21, cut ((m.1 21) + 1))]) 57 (cut ((m.1 21) + 1)) rfl rfl rfl rfl rfl rfl ?_
  exact P_re0 rfl rfl (Cn_mO hm ⟨(rV_i rfl cut_r), trivial⟩ trivial)
def rfl_takeMeta_40 (u1 : Int) (u2 : Int) (m : mR) : Option (Int × mR) :=
  bnd (rf_need 59 (mO m [] [(35, upI (m.2 35) u1 u2)])) fun y1 =>
  rfl_takeMeta_47 y1.2
theorem dg_takeMeta_40 (w : wX) (c : Nat → Option am_C) (N D : Nat) (bb : Nat) (u1 : Int) (u2 : Int) (r1 : R32 u1) (r2 : R32 u2) (m : mR) (hm : Cn m) (j : Nat → Int) : PP bb w D pm_238 (40, [(0, .ref 189)], [.int (i32 u2), .int (i32 u1), .ref 205], (mhp m c, N), 0, 0) (QS (FR0 c N) (rfl_takeMeta_40 u1 u2 m)) := by
  unfold rfl_takeMeta_40
  show PP bb w D pm_238 (40, [(0, .ref 189)], [.int (i32 u2), .int (i32 u1), .ref 205], (mhp (mO m [] []) c, N), 0, 0) _
  refine P_iast2 (a' := [(35, upI (m.2 35) u1 u2)]) 41 35 (m.2 35) rfl rfl rfl r1 rfl rfl ?_
  refine P_ld 42 (.ref 189) rfl (fun _ => rfl) ?_
  refine P_ld 44 (.int (i32 59)) rfl (fun _ => rfl) ?_
  refine P_ca0 47 232 [.ref 189, .int (i32 59)] [] rfl (fun _ => rfl) rfl (D_need w (mO m [] [(35, upI (m.2 35) u1 u2)]) c N D (Cn_mO hm trivial ⟨(rE_ui (Cn_a hm 35) rfl r2), trivial⟩) 59 (l32 59 rfl)) (fun y1 n3 => ?_)
  exact dg_takeMeta_47 w c N D bb y1.2 n3 (jk [])
def rfl_takeMeta_25 (m : mR) : Option (Int × mR) :=
  bnd (rf_number 1 64 m) fun y4 =>
  rfl_takeMeta_40 (m.1 21) y4.1 y4.2
theorem dg_takeMeta_25 (w : wX) (c : Nat → Option am_C) (N D : Nat) (bb : Nat) (m : mR) (hm : Cn m) (j : Nat → Int) : PP bb w D pm_238 (25, [(0, .ref 189)], [], (mhp m c, N), 0, 0) (QS (FR0 c N) (rfl_takeMeta_25 m)) := by
  unfold rfl_takeMeta_25
  show PP bb w D pm_238 (25, [(0, .ref 189)], [], (mhp (mO m [] []) c, N), 0, 0) _
  refine P_gf 29 (.ref 205) rfl rfl rfl rfl rfl rfl ?_
  refine P_gf 33 (.int (i32 (m.1 21))) rfl rfl rfl rfl rfl rfl ?_
  refine P_ld 34 (.ref 189) rfl (fun _ => rfl) ?_
  refine P_ld 35 (.int (i32 1)) rfl (fun _ => rfl) ?_
  refine P_ld 37 (.int (i32 64)) rfl (fun _ => rfl) ?_
  refine P_ca1 40 234 [.ref 189, .int (i32 1), .int (i32 64)] [.int (i32 (m.1 21)), .ref 205] rfl (fun _ => rfl) rfl (D_number w m c N D hm 1 64 (l32 1 rfl) (l32 64 rfl)) (fun y4 h5 n6 => ?_)
  exact dg_takeMeta_40 w c N D bb (m.1 21) y4.1 (Cn_i hm 21 rfl) h5 y4.2 n6 (jk [])
def rfl_takeMeta_15 (u0 : Int) (m : mR) : Option (Int × mR) :=
  if u0 = 0 then
    some (0, m)
  else
    bnd (rf_need 58 m) fun y8 =>
    rfl_takeMeta_25 y8.2
theorem dg_takeMeta_15 (w : wX) (c : Nat → Option am_C) (N D : Nat) (bb : Nat) (u0 : Int) (r0 : R32 u0) (m : mR) (hm : Cn m) (j : Nat → Int) : PP bb w D pm_238 (15, [(0, .ref 189)], [.int (i32 u0)], (mhp m c, N), 0, 0) (QS (FR0 c N) (rfl_takeMeta_15 u0 m)) := by
  unfold rfl_takeMeta_15
  show PP bb w D pm_238 (15, [(0, .ref 189)], [.int (i32 u0)], (mhp (mO m [] []) c, N), 0, 0) _
  refine P_ifE 19 18 rfl rfl rfl r0 rfl (fun h7 => ?_) (fun h7 => ?_)
  · skip
    exact P_re0 rfl rfl hm
  · skip
    refine P_ld 20 (.ref 189) rfl (fun _ => rfl) ?_
    refine P_ld 22 (.int (i32 58)) rfl (fun _ => rfl) ?_
    refine P_ca0 25 232 [.ref 189, .int (i32 58)] [] rfl (fun _ => rfl) rfl (D_need w m c N D hm 58 (l32 58 rfl)) (fun y8 n10 => ?_)
    exact dg_takeMeta_25 w c N D bb y8.2 n10 (jk [])
def rfl_takeMeta_4 (m : mR) : Option (Int × mR) :=
  bnd (rf_newName 3 (m.1 21) 16 m) fun y11 =>
  rfl_takeMeta_15 y11.1 y11.2
theorem dg_takeMeta_4 (w : wX) (c : Nat → Option am_C) (N D : Nat) (bb : Nat) (m : mR) (hm : Cn m) (j : Nat → Int) : PP bb w D pm_238 (4, [(0, .ref 189)], [], (mhp m c, N), 0, 0) (QS (FR0 c N) (rfl_takeMeta_4 m)) := by
  unfold rfl_takeMeta_4
  show PP bb w D pm_238 (4, [(0, .ref 189)], [], (mhp (mO m [] []) c, N), 0, 0) _
  refine P_ld 5 (.ref 189) rfl (fun _ => rfl) ?_
  refine P_ld 6 (.int (i32 3)) rfl (fun _ => rfl) ?_
  refine P_gf 10 (.int (i32 (m.1 21))) rfl rfl rfl rfl rfl rfl ?_
  refine P_ld 12 (.int (i32 16)) rfl (fun _ => rfl) ?_
  refine P_ca1 15 225 [.ref 189, .int (i32 3), .int (i32 (m.1 21)), .int (i32 16)] [] rfl (fun _ => rfl) rfl (D_newName w m c N D hm 3 (m.1 21) 16 (l32 3 rfl) (Cn_i hm 21 rfl) (l32 16 rfl)) (fun y11 h12 n13 => ?_)
  exact dg_takeMeta_15 w c N D bb y11.1 h12 y11.2 n13 (jk [])
def rf_takeMeta (m : mR) : Option (Int × mR) :=
  bnd (rf_next m) fun y14 =>
  rfl_takeMeta_4 y14.2
theorem D_takeMeta (w : wX) (m : mR) (c : Nat → Option am_C) (N D : Nat) (hm : Cn m) : PC w D 238 [.ref 189] (mhp m c, N) (QS (FR0 c N) (rf_takeMeta m)) := by
  refine Pc_of (fun D bb => ?_) D
  unfold rf_takeMeta
  show PP bb w D pm_238 (0, [(0, .ref 189)], [], (mhp (mO m [] []) c, N), 0, 0) _
  refine P_ld 1 (.ref 189) rfl (fun _ => rfl) ?_
  refine P_ca0 4 212 [.ref 189] [] rfl (fun _ => rfl) rfl (D_next w m c N D hm) (fun y14 n16 => ?_)
  exact dg_takeMeta_4 w c N D bb y14.2 n16 (jk [])
def rfl_takeArray_75 (m : mR) : Option (Int × mR) :=
  some (0, (mO m [(22, cut ((m.1 22) + 1))] []))
theorem dg_takeArray_75 (w : wX) (c : Nat → Option am_C) (N D : Nat) (bb : Nat) (m : mR) (hm : Cn m) (j : Nat → Int) : PP bb w D pm_239 (75, [(0, .ref 189)], [], (mhp m c, N), 0, 0) (QS (FR0 c N) (rfl_takeArray_75 m)) := by
  unfold rfl_takeArray_75
  show PP bb w D pm_239 (75, [(0, .ref 189)], [], (mhp (mO m [] []) c, N), 0, 0) _
  refine P_ld 76 (.ref 189) rfl (fun _ => rfl) ?_
  refine P_ld 77 (.ref 189) rfl (fun _ => rfl) ?_
  refine P_gf1 80 (.int (i32 (m.1 22))) rfl rfl rfl rfl ?_
  refine P_ld 81 (.int (i32 1)) rfl (fun _ => rfl) ?_
  refine P_op 82 (cut ((m.1 22) + 1)) _ rfl (fun _ => rfl) o_add ?_
  refine P_pf (l' := [(22, cut ((m.1 22) + 1))]) 85 (cut ((m.1 22) + 1)) rfl rfl rfl rfl rfl rfl ?_
  exact P_re0 rfl rfl (Cn_mO hm ⟨(rV_i rfl cut_r), trivial⟩ trivial)
def rfl_takeArray_69 (m : mR) : Option (Int × mR) :=
  bnd (rf_need 59 m) fun y1 =>
  rfl_takeArray_75 y1.2
theorem dg_takeArray_69 (w : wX) (c : Nat → Option am_C) (N D : Nat) (bb : Nat) (m : mR) (hm : Cn m) (j : Nat → Int) : PP bb w D pm_239 (69, [(0, .ref 189)], [], (mhp m c, N), 0, 0) (QS (FR0 c N) (rfl_takeArray_69 m)) := by
  unfold rfl_takeArray_69
  show PP bb w D pm_239 (69, [(0, .ref 189)], [], (mhp (mO m [] []) c, N), 0, 0) _
  refine P_ld 70 (.ref 189) rfl (fun _ => rfl) ?_
  refine P_ld 72 (.int (i32 59)) rfl (fun _ => rfl) ?_
  refine P_ca0 75 232 [.ref 189, .int (i32 59)] [] rfl (fun _ => rfl) rfl (D_need w m c N D hm 59 (l32 59 rfl)) (fun y1 n3 => ?_)
  exact dg_takeArray_75 w c N D bb y1.2 n3 (jk [])
def rfl_takeArray_62 (u1 : Int) (u2 : Int) (m : mR) : Option (Int × mR) :=
  bnd (rf_need 93 (mO m [] [(93, upI (m.2 93) u1 u2)])) fun y4 =>
  rfl_takeArray_69 y4.2
theorem dg_takeArray_62 (w : wX) (c : Nat → Option am_C) (N D : Nat) (bb : Nat) (u1 : Int) (u2 : Int) (r1 : R32 u1) (r2 : R32 u2) (m : mR) (hm : Cn m) (j : Nat → Int) : PP bb w D pm_239 (62, [(0, .ref 189)], [.int (i32 u2), .int (i32 u1), .ref 255], (mhp m c, N), 0, 0) (QS (FR0 c N) (rfl_takeArray_62 u1 u2 m)) := by
  unfold rfl_takeArray_62
  show PP bb w D pm_239 (62, [(0, .ref 189)], [.int (i32 u2), .int (i32 u1), .ref 255], (mhp (mO m [] []) c, N), 0, 0) _
  refine P_iast2 (a' := [(93, upI (m.2 93) u1 u2)]) 63 93 (m.2 93) rfl rfl rfl r1 rfl rfl ?_
  refine P_ld 64 (.ref 189) rfl (fun _ => rfl) ?_
  refine P_ld 66 (.int (i32 93)) rfl (fun _ => rfl) ?_
  refine P_ca0 69 232 [.ref 189, .int (i32 93)] [] rfl (fun _ => rfl) rfl (D_need w (mO m [] [(93, upI (m.2 93) u1 u2)]) c N D (Cn_mO hm trivial ⟨(rE_ui (Cn_a hm 93) rfl r2), trivial⟩) 93 (l32 93 rfl)) (fun y4 n6 => ?_)
  exact dg_takeArray_69 w c N D bb y4.2 n6 (jk [])
def rfl_takeArray_47 (m : mR) : Option (Int × mR) :=
  bnd (rf_number 1 64 m) fun y7 =>
  rfl_takeArray_62 (m.1 22) y7.1 y7.2
theorem dg_takeArray_47 (w : wX) (c : Nat → Option am_C) (N D : Nat) (bb : Nat) (m : mR) (hm : Cn m) (j : Nat → Int) : PP bb w D pm_239 (47, [(0, .ref 189)], [], (mhp m c, N), 0, 0) (QS (FR0 c N) (rfl_takeArray_47 m)) := by
  unfold rfl_takeArray_47
  show PP bb w D pm_239 (47, [(0, .ref 189)], [], (mhp (mO m [] []) c, N), 0, 0) _
  refine P_gf 51 (.ref 255) rfl rfl rfl rfl rfl rfl ?_
  refine P_gf 55 (.int (i32 (m.1 22))) rfl rfl rfl rfl rfl rfl ?_
  refine P_ld 56 (.ref 189) rfl (fun _ => rfl) ?_
  refine P_ld 57 (.int (i32 1)) rfl (fun _ => rfl) ?_
  refine P_ld 59 (.int (i32 64)) rfl (fun _ => rfl) ?_
  refine P_ca1 62 234 [.ref 189, .int (i32 1), .int (i32 64)] [.int (i32 (m.1 22)), .ref 255] rfl (fun _ => rfl) rfl (D_number w m c N D hm 1 64 (l32 1 rfl) (l32 64 rfl)) (fun y7 h8 n9 => ?_)
  exact dg_takeArray_62 w c N D bb (m.1 22) y7.1 (Cn_i hm 22 rfl) h8 y7.2 n9 (jk [])
def rfl_takeArray_40 (u1 : Int) (u2 : Int) (m : mR) : Option (Int × mR) :=
  bnd (rf_need 91 (mO m [] [(36, upI (m.2 36) u1 u2)])) fun y10 =>
  rfl_takeArray_47 y10.2
theorem dg_takeArray_40 (w : wX) (c : Nat → Option am_C) (N D : Nat) (bb : Nat) (u1 : Int) (u2 : Int) (r1 : R32 u1) (r2 : R32 u2) (m : mR) (hm : Cn m) (j : Nat → Int) : PP bb w D pm_239 (40, [(0, .ref 189)], [.int (i32 u2), .int (i32 u1), .ref 206], (mhp m c, N), 0, 0) (QS (FR0 c N) (rfl_takeArray_40 u1 u2 m)) := by
  unfold rfl_takeArray_40
  show PP bb w D pm_239 (40, [(0, .ref 189)], [.int (i32 u2), .int (i32 u1), .ref 206], (mhp (mO m [] []) c, N), 0, 0) _
  refine P_iast2 (a' := [(36, upI (m.2 36) u1 u2)]) 41 36 (m.2 36) rfl rfl rfl r1 rfl rfl ?_
  refine P_ld 42 (.ref 189) rfl (fun _ => rfl) ?_
  refine P_ld 44 (.int (i32 91)) rfl (fun _ => rfl) ?_
  refine P_ca0 47 232 [.ref 189, .int (i32 91)] [] rfl (fun _ => rfl) rfl (D_need w (mO m [] [(36, upI (m.2 36) u1 u2)]) c N D (Cn_mO hm trivial ⟨(rE_ui (Cn_a hm 36) rfl r2), trivial⟩) 91 (l32 91 rfl)) (fun y10 n12 => ?_)
  exact dg_takeArray_47 w c N D bb y10.2 n12 (jk [])
def rfl_takeArray_25 (m : mR) : Option (Int × mR) :=
  bnd (rf_number 1 64 m) fun y13 =>
  rfl_takeArray_40 (m.1 22) y13.1 y13.2
theorem dg_takeArray_25 (w : wX) (c : Nat → Option am_C) (N D : Nat) (bb : Nat) (m : mR) (hm : Cn m) (j : Nat → Int) : PP bb w D pm_239 (25, [(0, .ref 189)], [], (mhp m c, N), 0, 0) (QS (FR0 c N) (rfl_takeArray_25 m)) := by
  unfold rfl_takeArray_25
  show PP bb w D pm_239 (25, [(0, .ref 189)], [], (mhp (mO m [] []) c, N), 0, 0) _
  refine P_gf 29 (.ref 206) rfl rfl rfl rfl rfl rfl ?_
  refine P_gf 33 (.int (i32 (m.1 22))) rfl rfl rfl rfl rfl rfl ?_
  refine P_ld 34 (.ref 189) rfl (fun _ => rfl) ?_
  refine P_ld 35 (.int (i32 1)) rfl (fun _ => rfl) ?_
  refine P_ld 37 (.int (i32 64)) rfl (fun _ => rfl) ?_
  refine P_ca1 40 234 [.ref 189, .int (i32 1), .int (i32 64)] [.int (i32 (m.1 22)), .ref 206] rfl (fun _ => rfl) rfl (D_number w m c N D hm 1 64 (l32 1 rfl) (l32 64 rfl)) (fun y13 h14 n15 => ?_)
  exact dg_takeArray_40 w c N D bb (m.1 22) y13.1 (Cn_i hm 22 rfl) h14 y13.2 n15 (jk [])
def rfl_takeArray_15 (u0 : Int) (m : mR) : Option (Int × mR) :=
  if u0 = 0 then
    some (0, m)
  else
    bnd (rf_need 58 m) fun y17 =>
    rfl_takeArray_25 y17.2
theorem dg_takeArray_15 (w : wX) (c : Nat → Option am_C) (N D : Nat) (bb : Nat) (u0 : Int) (r0 : R32 u0) (m : mR) (hm : Cn m) (j : Nat → Int) : PP bb w D pm_239 (15, [(0, .ref 189)], [.int (i32 u0)], (mhp m c, N), 0, 0) (QS (FR0 c N) (rfl_takeArray_15 u0 m)) := by
  unfold rfl_takeArray_15
  show PP bb w D pm_239 (15, [(0, .ref 189)], [.int (i32 u0)], (mhp (mO m [] []) c, N), 0, 0) _
  refine P_ifE 19 18 rfl rfl rfl r0 rfl (fun h16 => ?_) (fun h16 => ?_)
  · skip
    exact P_re0 rfl rfl hm
  · skip
    refine P_ld 20 (.ref 189) rfl (fun _ => rfl) ?_
    refine P_ld 22 (.int (i32 58)) rfl (fun _ => rfl) ?_
    refine P_ca0 25 232 [.ref 189, .int (i32 58)] [] rfl (fun _ => rfl) rfl (D_need w m c N D hm 58 (l32 58 rfl)) (fun y17 n19 => ?_)
    exact dg_takeArray_25 w c N D bb y17.2 n19 (jk [])
def rfl_takeArray_4 (m : mR) : Option (Int × mR) :=
  bnd (rf_newName 4 (m.1 22) 8 m) fun y20 =>
  rfl_takeArray_15 y20.1 y20.2
theorem dg_takeArray_4 (w : wX) (c : Nat → Option am_C) (N D : Nat) (bb : Nat) (m : mR) (hm : Cn m) (j : Nat → Int) : PP bb w D pm_239 (4, [(0, .ref 189)], [], (mhp m c, N), 0, 0) (QS (FR0 c N) (rfl_takeArray_4 m)) := by
  unfold rfl_takeArray_4
  show PP bb w D pm_239 (4, [(0, .ref 189)], [], (mhp (mO m [] []) c, N), 0, 0) _
  refine P_ld 5 (.ref 189) rfl (fun _ => rfl) ?_
  refine P_ld 6 (.int (i32 4)) rfl (fun _ => rfl) ?_
  refine P_gf 10 (.int (i32 (m.1 22))) rfl rfl rfl rfl rfl rfl ?_
  refine P_ld 12 (.int (i32 8)) rfl (fun _ => rfl) ?_
  refine P_ca1 15 225 [.ref 189, .int (i32 4), .int (i32 (m.1 22)), .int (i32 8)] [] rfl (fun _ => rfl) rfl (D_newName w m c N D hm 4 (m.1 22) 8 (l32 4 rfl) (Cn_i hm 22 rfl) (l32 8 rfl)) (fun y20 h21 n22 => ?_)
  exact dg_takeArray_15 w c N D bb y20.1 h21 y20.2 n22 (jk [])
def rf_takeArray (m : mR) : Option (Int × mR) :=
  bnd (rf_next m) fun y23 =>
  rfl_takeArray_4 y23.2
theorem D_takeArray (w : wX) (m : mR) (c : Nat → Option am_C) (N D : Nat) (hm : Cn m) : PC w D 239 [.ref 189] (mhp m c, N) (QS (FR0 c N) (rf_takeArray m)) := by
  refine Pc_of (fun D bb => ?_) D
  unfold rf_takeArray
  show PP bb w D pm_239 (0, [(0, .ref 189)], [], (mhp (mO m [] []) c, N), 0, 0) _
  refine P_ld 1 (.ref 189) rfl (fun _ => rfl) ?_
  refine P_ca0 4 212 [.ref 189] [] rfl (fun _ => rfl) rfl (D_next w m c N D hm) (fun y23 n25 => ?_)
  exact dg_takeArray_4 w c N D bb y23.2 n25 (jk [])
def rfl_takeExtract_59 (v1 : Int) (m : mR) : Option (Int × mR) :=
  some (0, (mO m [] [(41, upI (m.2 41) v1 (cut (((m.2 41) v1) + 1)))]))
theorem dg_takeExtract_59 (w : wX) (c : Nat → Option am_C) (N D : Nat) (bb : Nat) (v1 : Int) (q1 : R32 v1) (m : mR) (hm : Cn m) (j : Nat → Int) : PP bb w D pm_241 (59, [(0, .ref 189), (1, .int (i32 v1))], [], (mhp m c, N), 0, 0) (QS (FR0 c N) (rfl_takeExtract_59 v1 m)) := by
  unfold rfl_takeExtract_59
  show PP bb w D pm_241 (59, [(0, .ref 189), (1, .int (i32 v1))], [], (mhp (mO m [] []) c, N), 0, 0) _
  refine P_gf 63 (.ref 211) rfl rfl rfl rfl rfl rfl ?_
  refine P_ld 64 (.int (i32 v1)) rfl (fun _ => rfl) ?_
  refine P_dup2 65 rfl (fun _ => rfl) ?_
  refine P_iald2 66 41 (m.2 41) rfl rfl rfl q1 rfl ?_
  refine P_ld 67 (.int (i32 1)) rfl (fun _ => rfl) ?_
  refine P_op 68 (cut (((m.2 41) v1) + 1)) _ rfl (fun _ => rfl) o_add ?_
  refine P_iast2 (a' := [(41, upI (m.2 41) v1 (cut (((m.2 41) v1) + 1)))]) 69 41 (m.2 41) rfl rfl rfl q1 rfl rfl ?_
  exact P_re0 rfl rfl (Cn_mO hm trivial ⟨(rE_ui (Cn_a hm 41) rfl cut_r), trivial⟩)
def rfl_takeExtract_52 (v1 : Int) (u1 : Int) (u2 : Int) (m : mR) : Option (Int × mR) :=
  bnd (rf_need 59 (mO m [] [(94, upI (m.2 94) u1 u2)])) fun y1 =>
  rfl_takeExtract_59 v1 y1.2
theorem dg_takeExtract_52 (w : wX) (c : Nat → Option am_C) (N D : Nat) (bb : Nat) (v1 : Int) (u1 : Int) (u2 : Int) (q1 : R32 v1) (r1 : R32 u1) (r2 : R32 u2) (m : mR) (hm : Cn m) (j : Nat → Int) : PP bb w D pm_241 (52, [(0, .ref 189), (1, .int (i32 v1))], [.int (i32 u2), .int (i32 u1), .ref 256], (mhp m c, N), 0, 0) (QS (FR0 c N) (rfl_takeExtract_52 v1 u1 u2 m)) := by
  unfold rfl_takeExtract_52
  show PP bb w D pm_241 (52, [(0, .ref 189), (1, .int (i32 v1))], [.int (i32 u2), .int (i32 u1), .ref 256], (mhp (mO m [] []) c, N), 0, 0) _
  refine P_iast2 (a' := [(94, upI (m.2 94) u1 u2)]) 53 94 (m.2 94) rfl rfl rfl r1 rfl rfl ?_
  refine P_ld 54 (.ref 189) rfl (fun _ => rfl) ?_
  refine P_ld 56 (.int (i32 59)) rfl (fun _ => rfl) ?_
  refine P_ca0 59 232 [.ref 189, .int (i32 59)] [] rfl (fun _ => rfl) rfl (D_need w (mO m [] [(94, upI (m.2 94) u1 u2)]) c N D (Cn_mO hm trivial ⟨(rE_ui (Cn_a hm 94) rfl r2), trivial⟩) 59 (l32 59 rfl)) (fun y1 n3 => ?_)
  exact dg_takeExtract_59 w c N D bb v1 q1 y1.2 n3 (jk [])
def rfl_takeExtract_32 (v1 : Int) (m : mR) : Option (Int × mR) :=
  bnd (rf_oldName 2 m) fun y4 =>
  rfl_takeExtract_52 v1 (cut ((cut (6 * v1)) + ((m.2 41) v1))) y4.1 y4.2
theorem dg_takeExtract_32 (w : wX) (c : Nat → Option am_C) (N D : Nat) (bb : Nat) (v1 : Int) (q1 : R32 v1) (m : mR) (hm : Cn m) (j : Nat → Int) : PP bb w D pm_241 (32, [(0, .ref 189), (1, .int (i32 v1))], [], (mhp m c, N), 0, 0) (QS (FR0 c N) (rfl_takeExtract_32 v1 m)) := by
  unfold rfl_takeExtract_32
  show PP bb w D pm_241 (32, [(0, .ref 189), (1, .int (i32 v1))], [], (mhp (mO m [] []) c, N), 0, 0) _
  refine P_gf 36 (.ref 256) rfl rfl rfl rfl rfl rfl ?_
  refine P_ld 38 (.int (i32 6)) rfl (fun _ => rfl) ?_
  refine P_ld 39 (.int (i32 v1)) rfl (fun _ => rfl) ?_
  refine P_op 40 (cut (6 * v1)) _ rfl (fun _ => rfl) o_mul ?_
  refine P_gf 44 (.ref 211) rfl rfl rfl rfl rfl rfl ?_
  refine P_ld 45 (.int (i32 v1)) rfl (fun _ => rfl) ?_
  refine P_iald2 46 41 (m.2 41) rfl rfl rfl q1 rfl ?_
  refine P_op 47 (cut ((cut (6 * v1)) + ((m.2 41) v1))) _ rfl (fun _ => rfl) o_add ?_
  refine P_ld 48 (.ref 189) rfl (fun _ => rfl) ?_
  refine P_ld 49 (.int (i32 2)) rfl (fun _ => rfl) ?_
  refine P_ca1 52 236 [.ref 189, .int (i32 2)] [.int (i32 (cut ((cut (6 * v1)) + ((m.2 41) v1)))), .ref 256] rfl (fun _ => rfl) rfl (D_oldName w m c N D hm 2 (l32 2 rfl)) (fun y4 h5 n6 => ?_)
  exact dg_takeExtract_52 w c N D bb v1 (cut ((cut (6 * v1)) + ((m.2 41) v1))) y4.1 q1 cut_r h5 y4.2 n6 (jk [])
def rfl_takeExtract_20 (v1 : Int) (m : mR) : Option (Int × mR) :=
  if m.1 10 ≤ 0 then
    bnd (rf_next m) fun y8 =>
    rfl_takeExtract_32 v1 y8.2
  else
    some (0, m)
theorem dg_takeExtract_20 (w : wX) (c : Nat → Option am_C) (N D : Nat) (bb : Nat) (v1 : Int) (q1 : R32 v1) (m : mR) (hm : Cn m) (j : Nat → Int) : PP bb w D pm_241 (20, [(0, .ref 189), (1, .int (i32 v1))], [], (mhp m c, N), 0, 0) (QS (FR0 c N) (rfl_takeExtract_20 v1 m)) := by
  unfold rfl_takeExtract_20
  show PP bb w D pm_241 (20, [(0, .ref 189), (1, .int (i32 v1))], [], (mhp (mO m [] []) c, N), 0, 0) _
  refine P_gf 24 (.int (i32 (m.1 10))) rfl rfl rfl rfl rfl rfl ?_
  refine P_ifF 28 27 rfl rfl rfl (Cn_i hm 10 rfl) rfl (fun h7 => ?_) (fun h7 => ?_)
  · skip
    refine P_ld 29 (.ref 189) rfl (fun _ => rfl) ?_
    refine P_ca0 32 212 [.ref 189] [] rfl (fun _ => rfl) rfl (D_next w m c N D hm) (fun y8 n10 => ?_)
    exact dg_takeExtract_32 w c N D bb v1 q1 y8.2 n10 (jk [])
  · skip
    exact P_re0 rfl rfl hm
def rf_takeExtract (v1 : Int) (m : mR) : Option (Int × mR) :=
  if (m.2 41) v1 = 6 then
    bnd (rf_wrong 4 (m.1 8) m) fun y12 =>
    rfl_takeExtract_20 v1 y12.2
  else
    rfl_takeExtract_20 v1 m
theorem D_takeExtract (w : wX) (m : mR) (c : Nat → Option am_C) (N D : Nat) (hm : Cn m) (v1 : Int) (q1 : R32 v1) : PC w D 241 [.ref 189, .int (i32 v1)] (mhp m c, N) (QS (FR0 c N) (rf_takeExtract v1 m)) := by
  refine Pc_of (fun D bb => ?_) D
  unfold rf_takeExtract
  show PP bb w D pm_241 (0, [(0, .ref 189), (1, .int (i32 v1))], [], (mhp (mO m [] []) c, N), 0, 0) _
  refine P_gf 4 (.ref 211) rfl rfl rfl rfl rfl rfl ?_
  refine P_ld 5 (.int (i32 v1)) rfl (fun _ => rfl) ?_
  refine P_iald2 6 41 (m.2 41) rfl rfl rfl q1 rfl ?_
  refine P_ld 8 (.int (i32 6)) rfl (fun _ => rfl) ?_
  refine P_icE 20 11 rfl rfl rfl (rE_i (Cn_a hm 41) rfl _) (l32 6 rfl) rfl (fun h11 => ?_) (fun h11 => ?_)
  · skip
    refine P_ld 12 (.ref 189) rfl (fun _ => rfl) ?_
    refine P_ld 13 (.int (i32 4)) rfl (fun _ => rfl) ?_
    refine P_gf 17 (.int (i32 (m.1 8))) rfl rfl rfl rfl rfl rfl ?_
    refine P_ca0 20 222 [.ref 189, .int (i32 4), .int (i32 (m.1 8))] [] rfl (fun _ => rfl) rfl (D_wrong w m c N D hm 4 (m.1 8) (l32 4 rfl) (Cn_i hm 8 rfl)) (fun y12 n14 => ?_)
    exact dg_takeExtract_20 w c N D bb v1 q1 y12.2 n14 (jk [])
  · skip
    exact dg_takeExtract_20 w c N D bb v1 q1 m hm (jk [])
def rfl_stateHere_135 (m : mR) : Option (Int × mR) :=
  some (cut ((m.1 23) - 1), m)
theorem dg_stateHere_135 (w : wX) (c : Nat → Option am_C) (N D : Nat) (bb : Nat) (m : mR) (hm : Cn m) (j : Nat → Int) : PP bb w D pm_242 (135, [(0, .ref 189), (1, .int (i32 (j 1)))], [], (mhp m c, N), 0, 0) (QS (FR1 c N) (rfl_stateHere_135 m)) := by
  unfold rfl_stateHere_135
  show PP bb w D pm_242 (135, [(0, .ref 189), (1, .int (i32 (j 1)))], [], (mhp (mO m [] []) c, N), 0, 0) _
  refine P_gf 139 (.int (i32 (m.1 23))) rfl rfl rfl rfl rfl rfl ?_
  refine P_ld 140 (.int (i32 1)) rfl (fun _ => rfl) ?_
  refine P_op 141 (cut ((m.1 23) - 1)) _ rfl (fun _ => rfl) o_sub ?_
  exact P_re1 rfl cut_r hm
def rfl_stateHere_121 (m : mR) : Option (Int × mR) :=
  bnd (rf_next (mO m [(23, cut ((m.1 23) + 1))] [])) fun y1 =>
  rfl_stateHere_135 y1.2
theorem dg_stateHere_121 (w : wX) (c : Nat → Option am_C) (N D : Nat) (bb : Nat) (m : mR) (hm : Cn m) (j : Nat → Int) : PP bb w D pm_242 (121, [(0, .ref 189), (1, .int (i32 (j 1)))], [], (mhp m c, N), 0, 0) (QS (FR1 c N) (rfl_stateHere_121 m)) := by
  unfold rfl_stateHere_121
  show PP bb w D pm_242 (121, [(0, .ref 189), (1, .int (i32 (j 1)))], [], (mhp (mO m [] []) c, N), 0, 0) _
  refine P_ld 122 (.ref 189) rfl (fun _ => rfl) ?_
  refine P_ld 123 (.ref 189) rfl (fun _ => rfl) ?_
  refine P_gf1 126 (.int (i32 (m.1 23))) rfl rfl rfl rfl ?_
  refine P_ld 127 (.int (i32 1)) rfl (fun _ => rfl) ?_
  refine P_op 128 (cut ((m.1 23) + 1)) _ rfl (fun _ => rfl) o_add ?_
  refine P_pf (l' := [(23, cut ((m.1 23) + 1))]) 131 (cut ((m.1 23) + 1)) rfl rfl rfl rfl rfl rfl ?_
  refine P_ld 132 (.ref 189) rfl (fun _ => rfl) ?_
  refine P_ca0 135 212 [.ref 189] [] rfl (fun _ => rfl) rfl (D_next w (mO m [(23, cut ((m.1 23) + 1))] []) c N D (Cn_mO hm ⟨(rV_i rfl cut_r), trivial⟩ trivial)) (fun y1 n3 => ?_)
  exact dg_stateHere_135 w c N D bb y1.2 n3 (jk [(1, j 1)])
def rfl_stateHere_80 (m : mR) : Option (Int × mR) :=
  if m.1 10 ≤ 0 then
    bnd (rf_enter 5 (m.1 23) (mO m [] [(37, upI (m.2 37) (m.1 23) (m.1 8)), (38, upI (m.2 38) (m.1 23) (-1))])) fun y5 =>
    rfl_stateHere_121 y5.2
  else
    some ((-1), m)
theorem dg_stateHere_80 (w : wX) (c : Nat → Option am_C) (N D : Nat) (bb : Nat) (m : mR) (hm : Cn m) (j : Nat → Int) : PP bb w D pm_242 (80, [(0, .ref 189), (1, .int (i32 (j 1)))], [], (mhp m c, N), 0, 0) (QS (FR1 c N) (rfl_stateHere_80 m)) := by
  unfold rfl_stateHere_80
  show PP bb w D pm_242 (80, [(0, .ref 189), (1, .int (i32 (j 1)))], [], (mhp (mO m [] []) c, N), 0, 0) _
  refine P_gf 84 (.int (i32 (m.1 10))) rfl rfl rfl rfl rfl rfl ?_
  refine P_ifF 89 87 rfl rfl rfl (Cn_i hm 10 rfl) rfl (fun h4 => ?_) (fun h4 => ?_)
  · skip
    refine P_gf 93 (.ref 207) rfl rfl rfl rfl rfl rfl ?_
    refine P_gf 97 (.int (i32 (m.1 23))) rfl rfl rfl rfl rfl rfl ?_
    refine P_gf 101 (.int (i32 (m.1 8))) rfl rfl rfl rfl rfl rfl ?_
    refine P_iast2 (a' := [(37, upI (m.2 37) (m.1 23) (m.1 8))]) 102 37 (m.2 37) rfl rfl rfl (Cn_i hm 23 rfl) rfl rfl ?_
    refine P_gf 106 (.ref 208) rfl rfl rfl rfl rfl rfl ?_
    refine P_gf 110 (.int (i32 (m.1 23))) rfl rfl rfl rfl rfl rfl ?_
    refine P_ld 111 (.int (i32 (-1))) rfl (fun _ => rfl) ?_
    refine P_iast2 (a' := [(37, upI (m.2 37) (m.1 23) (m.1 8)), (38, upI (m.2 38) (m.1 23) (-1))]) 112 38 (m.2 38) rfl rfl rfl (Cn_i hm 23 rfl) rfl rfl ?_
    refine P_ld 113 (.ref 189) rfl (fun _ => rfl) ?_
    refine P_ld 114 (.int (i32 5)) rfl (fun _ => rfl) ?_
    refine P_gf 118 (.int (i32 (m.1 23))) rfl rfl rfl rfl rfl rfl ?_
    refine P_ca0 121 231 [.ref 189, .int (i32 5), .int (i32 (m.1 23))] [] rfl (fun _ => rfl) rfl (D_enter w (mO m [] [(37, upI (m.2 37) (m.1 23) (m.1 8)), (38, upI (m.2 38) (m.1 23) (-1))]) c N D (Cn_mO hm trivial ⟨(rE_ui (Cn_a hm 37) rfl (Cn_i hm 8 rfl)), (rE_ui (Cn_a hm 38) rfl (l32 (-1) rfl)), trivial⟩) 5 (m.1 23) (l32 5 rfl) (Cn_i hm 23 rfl)) (fun y5 n7 => ?_)
    exact dg_stateHere_121 w c N D bb y5.2 n7 (jk [(1, j 1)])
  · skip
    refine P_ld 88 (.int (i32 (-1))) rfl (fun _ => rfl) ?_
    exact P_re1 rfl (l32 (-1) rfl) hm
def rf_stateHere (m : mR) : Option (Int × mR) :=
  if m.1 10 ≤ 0 then
    if m.1 7 = 1 then
      bnd (rf_sortHere m) fun y10 =>
      if y10 = 5 then
        bnd (rf_whichHere m) fun y21 =>
        bnd (rf_next m) fun y23 =>
        some (y21, y23.2)
      else
        if y10 = (-1) then
          if m.1 23 = 16 then
            bnd (rf_wrong 4 (m.1 8) m) fun y15 =>
            rfl_stateHere_80 y15.2
          else
            rfl_stateHere_80 m
        else
          bnd (rf_wrong 6 (m.1 8) m) fun y18 =>
          rfl_stateHere_80 y18.2
    else
      bnd (rf_bad m) fun y26 =>
      some ((-1), y26.2)
  else
    some ((-1), m)
theorem D_stateHere (w : wX) (m : mR) (c : Nat → Option am_C) (N D : Nat) (hm : Cn m) : PC w D 242 [.ref 189] (mhp m c, N) (QS (FR1 c N) (rf_stateHere m)) := by
  refine Pc_of (fun D bb => ?_) D
  unfold rf_stateHere
  show PP bb w D pm_242 (0, [(0, .ref 189)], [], (mhp (mO m [] []) c, N), 0, 0) _
  refine P_gf 4 (.int (i32 (m.1 10))) rfl rfl rfl rfl rfl rfl ?_
  refine P_ifF 9 7 rfl rfl rfl (Cn_i hm 10 rfl) rfl (fun h8 => ?_) (fun h8 => ?_)
  · skip
    refine P_gf 13 (.int (i32 (m.1 7))) rfl rfl rfl rfl rfl rfl ?_
    refine P_ld 14 (.int (i32 1)) rfl (fun _ => rfl) ?_
    refine P_icF 23 17 rfl rfl rfl (Cn_i hm 7 rfl) (l32 1 rfl) rfl (fun h9 => ?_) (fun h9 => ?_)
    · skip
      refine P_ld 24 (.ref 189) rfl (fun _ => rfl) ?_
      refine P_cp1 27 227 [.ref 189] [] rfl (fun _ => rfl) rfl (D_sortHere w m c N D hm) (fun y10 h11 => ?_)
      refine P_sto 28 [(1, .int (i32 y10)), (0, .ref 189)] rfl (fun _ => rfl) ?_
      refine P_ld 29 (.int (i32 y10)) rfl (fun _ => rfl) ?_
      refine P_ld 30 (.int (i32 5)) rfl (fun _ => rfl) ?_
      refine P_icE 44 33 rfl rfl rfl h11 (l32 5 rfl) rfl (fun h12 => ?_) (fun h12 => ?_)
      · skip
        refine P_ld 34 (.ref 189) rfl (fun _ => rfl) ?_
        refine P_cp1 37 237 [.ref 189] [] rfl (fun _ => rfl) rfl (D_whichHere w m c N D hm) (fun y21 h22 => ?_)
        refine P_sto 38 [(2, .int (i32 y21)), (1, .int (i32 y10)), (0, .ref 189)] rfl (fun _ => rfl) ?_
        refine P_ld 39 (.ref 189) rfl (fun _ => rfl) ?_
        refine P_ca0 42 212 [.ref 189] [] rfl (fun _ => rfl) rfl (D_next w m c N D hm) (fun y23 n25 => ?_)
        refine P_ld 43 (.int (i32 y21)) rfl (fun _ => rfl) ?_
        exact P_re1 rfl h22 n25
      · skip
        refine P_ld 45 (.int (i32 y10)) rfl (fun _ => rfl) ?_
        refine P_ld 46 (.int (i32 (-1))) rfl (fun _ => rfl) ?_
        refine P_icF 62 49 rfl rfl rfl h11 (l32 (-1) rfl) rfl (fun h13 => ?_) (fun h13 => ?_)
        · skip
          refine P_gf 66 (.int (i32 (m.1 23))) rfl rfl rfl rfl rfl rfl ?_
          refine P_ld 68 (.int (i32 16)) rfl (fun _ => rfl) ?_
          refine P_icE 80 71 rfl rfl rfl (Cn_i hm 23 rfl) (l32 16 rfl) rfl (fun h14 => ?_) (fun h14 => ?_)
          · skip
            refine P_ld 72 (.ref 189) rfl (fun _ => rfl) ?_
            refine P_ld 73 (.int (i32 4)) rfl (fun _ => rfl) ?_
            refine P_gf 77 (.int (i32 (m.1 8))) rfl rfl rfl rfl rfl rfl ?_
            refine P_ca0 80 222 [.ref 189, .int (i32 4), .int (i32 (m.1 8))] [] rfl (fun _ => rfl) rfl (D_wrong w m c N D hm 4 (m.1 8) (l32 4 rfl) (Cn_i hm 8 rfl)) (fun y15 n17 => ?_)
            refine P_lv (b := [(0, .ref 189), (1, .int (i32 y10))]) rfl rfl ⟨rfl, rfl, trivial⟩ ?_
            exact dg_stateHere_80 w c N D bb y15.2 n17 (jk [(1, y10)])
          · skip
            refine P_lv (b := [(0, .ref 189), (1, .int (i32 y10))]) rfl rfl ⟨rfl, rfl, trivial⟩ ?_
            exact dg_stateHere_80 w c N D bb m hm (jk [(1, y10)])
        · skip
          refine P_ld 50 (.ref 189) rfl (fun _ => rfl) ?_
          refine P_ld 52 (.int (i32 6)) rfl (fun _ => rfl) ?_
          refine P_gf 56 (.int (i32 (m.1 8))) rfl rfl rfl rfl rfl rfl ?_
          refine P_ca0 59 222 [.ref 189, .int (i32 6), .int (i32 (m.1 8))] [] rfl (fun _ => rfl) rfl (D_wrong w m c N D hm 6 (m.1 8) (l32 6 rfl) (Cn_i hm 8 rfl)) (fun y18 n20 => ?_)
          refine P_goto 80 rfl (fun _ => rfl) ?_
          refine P_lv (b := [(0, .ref 189), (1, .int (i32 y10))]) rfl rfl ⟨rfl, rfl, trivial⟩ ?_
          exact dg_stateHere_80 w c N D bb y18.2 n20 (jk [(1, y10)])
    · skip
      refine P_ld 18 (.ref 189) rfl (fun _ => rfl) ?_
      refine P_ca0 21 226 [.ref 189] [] rfl (fun _ => rfl) rfl (D_bad w m c N D hm) (fun y26 n28 => ?_)
      refine P_ld 22 (.int (i32 (-1))) rfl (fun _ => rfl) ?_
      exact P_re1 rfl (l32 (-1) rfl) n28
  · skip
    refine P_ld 8 (.int (i32 (-1))) rfl (fun _ => rfl) ?_
    exact P_re1 rfl (l32 (-1) rfl) hm
def cs_open_43 (s : Int × mR) : Prop := R32 s.1 ∧ Cn s.2
def cx_open_43 : (mR) → Prop := (fun (e : mR) => Cn e)
def hd_open_43 (c : Nat → Option am_C) (N : Nat) (s : Int × mR) (j : Nat → Int) : ag_St af_T := (43, [(0, .ref 189), (1, .int (i32 (j 1))), (2, .int (i32 (j 2))), (3, .int (i32 (j 3))), (4, .int (i32 s.1))], [], (mhp s.2 c, N), 0, 0)
def ex_open_43 (c : Nat → Option am_C) (N : Nat) : (mR) → (Nat → Int) → ag_St af_T := (fun (e : mR) (j : Nat → Int) => ((72, [(0, .ref 189), (1, .int (i32 (j 1))), (2, .int (i32 (j 2))), (3, .int (i32 (j 3))), (4, .int (i32 (j 4)))], [], (mhp e c, N), 0, 0) : ag_St af_T))
def rfl_open_72 (m : mR) : Option (Int × mR) :=
  some (0, (mO m [(73, cut ((m.1 73) + 1))] []))
theorem dg_open_72 (w : wX) (c : Nat → Option am_C) (N D : Nat) (bb : Nat) (m : mR) (hm : Cn m) (j : Nat → Int) : PP bb w D pm_246 (72, [(0, .ref 189), (1, .int (i32 (j 1))), (2, .int (i32 (j 2))), (3, .int (i32 (j 3))), (4, .int (i32 (j 4)))], [], (mhp m c, N), 0, 0) (QS (FR0 c N) (rfl_open_72 m)) := by
  unfold rfl_open_72
  show PP bb w D pm_246 (72, [(0, .ref 189), (1, .int (i32 (j 1))), (2, .int (i32 (j 2))), (3, .int (i32 (j 3))), (4, .int (i32 (j 4)))], [], (mhp (mO m [] []) c, N), 0, 0) _
  refine P_ld 73 (.ref 189) rfl (fun _ => rfl) ?_
  refine P_ld 74 (.ref 189) rfl (fun _ => rfl) ?_
  refine P_gf1 77 (.int (i32 (m.1 73))) rfl rfl rfl rfl ?_
  refine P_ld 78 (.int (i32 1)) rfl (fun _ => rfl) ?_
  refine P_op 79 (cut ((m.1 73) + 1)) _ rfl (fun _ => rfl) o_add ?_
  refine P_pf (l' := [(73, cut ((m.1 73) + 1))]) 82 (cut ((m.1 73) + 1)) rfl rfl rfl rfl rfl rfl ?_
  exact P_re0 rfl rfl (Cn_mO hm ⟨(rV_i rfl cut_r), trivial⟩ trivial)
def rfb_open_43 (s : Int × mR) : Option (Sum (Int × mR) (mR)) :=
  if (9 : Int) ≤ s.1 then
    some (.inr s.2)
  else
    some (.inl (cut (s.1 + 1), (mO s.2 [] [(80, upI (s.2.2 80) (cut ((cut (9 * (s.2.1 73))) + s.1)) (-1))])))
theorem dh_open_43 (w : wX) (c : Nat → Option am_C) (N D : Nat) (bb : Nat) (Q2 : Sum (Int × mR) (mR) → ag_Re af_T → Prop) (H1 : ∀ s j, cs_open_43 s → PP bb w D pm_246 (hd_open_43 c N s j) (Q2 (.inl s))) (H2 : ∀ x j, cx_open_43 x → PP bb w D pm_246 (ex_open_43 c N x j) (Q2 (.inr x))) (s : Int × mR) (j : Nat → Int) (hs : cs_open_43 s) : PP (bb + 1) w D pm_246 (hd_open_43 c N s j) (QS Q2 (rfb_open_43 s)) := by
  obtain ⟨g4, gm⟩ := hs
  unfold rfb_open_43
  show PP (bb + 1) w D pm_246 (43, [(0, .ref 189), (1, .int (i32 (j 1))), (2, .int (i32 (j 2))), (3, .int (i32 (j 3))), (4, .int (i32 s.1))], [], (mhp (mO s.2 [] []) c, N), 0, 0) _
  refine P1_ld 45 (.int (i32 s.1)) rfl (fun _ => rfl) ?_
  refine P_ld 47 (.int (i32 9)) rfl (fun _ => rfl) ?_
  refine P_icF 72 50 rfl rfl rfl g4 (l32 9 rfl) rfl (fun h3 => ?_) (fun h3 => ?_)
  · skip
    refine P_some ?_
    exact H2 s.2 (jk [(1, j 1), (2, j 2), (3, j 3), (4, s.1)]) gm
  · skip
    refine P_gf 54 (.ref 242) rfl rfl rfl rfl rfl rfl ?_
    refine P_ld 56 (.int (i32 9)) rfl (fun _ => rfl) ?_
    refine P_gf 60 (.int (i32 (s.2.1 73))) rfl rfl rfl rfl rfl rfl ?_
    refine P_op 61 (cut (9 * (s.2.1 73))) _ rfl (fun _ => rfl) o_mul ?_
    refine P_ld 63 (.int (i32 s.1)) rfl (fun _ => rfl) ?_
    refine P_op 64 (cut ((cut (9 * (s.2.1 73))) + s.1)) _ rfl (fun _ => rfl) o_add ?_
    refine P_ld 65 (.int (i32 (-1))) rfl (fun _ => rfl) ?_
    refine P_iast2 (a' := [(80, upI (s.2.2 80) (cut ((cut (9 * (s.2.1 73))) + s.1)) (-1))]) 66 80 (s.2.2 80) rfl rfl rfl cut_r rfl rfl ?_
    refine P_inc 69 [(4, .int (i32 (cut (s.1 + 1)))), (0, .ref 189), (1, .int (i32 (j 1))), (2, .int (i32 (j 2))), (3, .int (i32 (j 3)))] rfl rfl (by decide) rfl rfl ?_
    refine P_goto 43 rfl (fun _ => rfl) ?_
    refine P_some ?_
    refine P_lv (b := [(0, .ref 189), (1, .int (i32 (j 1))), (2, .int (i32 (j 2))), (3, .int (i32 (j 3))), (4, .int (i32 (cut (s.1 + 1))))]) rfl rfl ⟨rfl, rfl, rfl, rfl, rfl, trivial⟩ ?_
    exact H1 (cut (s.1 + 1), (mO s.2 [] [(80, upI (s.2.2 80) (cut ((cut (9 * (s.2.1 73))) + s.1)) (-1))])) (jk [(1, j 1), (2, j 2), (3, j 3)]) ⟨cut_r, (Cn_mO gm trivial ⟨(rE_ui (Cn_a gm 80) rfl (l32 (-1) rfl)), trivial⟩)⟩
def rf_open (v1 : Int) (v2 : Int) (v3 : Int) (m : mR) : Option (Int × mR) :=
  bnd (whl rfb_open_43 (0, (mO m [] [(76, upI (m.2 76) (m.1 73) v1), (77, upI (m.2 77) (m.1 73) v2), (78, upI (m.2 78) (m.1 73) v3), (79, upI (m.2 79) (m.1 73) 0)]))) (fun e4 : mR =>
    rfl_open_72 e4)
theorem D_open (w : wX) (m : mR) (c : Nat → Option am_C) (N D : Nat) (hm : Cn m) (v1 : Int) (v2 : Int) (v3 : Int) (q1 : R32 v1) (q2 : R32 v2) (q3 : R32 v3) : PC w D 246 [.ref 189, .int (i32 v1), .int (i32 v2), .int (i32 v3)] (mhp m c, N) (QS (FR0 c N) (rf_open v1 v2 v3 m)) := by
  refine Pc_of (fun D bb => ?_) D
  unfold rf_open
  show PP bb w D pm_246 (0, [(0, .ref 189), (1, .int (i32 v1)), (2, .int (i32 v2)), (3, .int (i32 v3))], [], (mhp (mO m [] []) c, N), 0, 0) _
  refine P_gf 4 (.ref 238) rfl rfl rfl rfl rfl rfl ?_
  refine P_gf 8 (.int (i32 (m.1 73))) rfl rfl rfl rfl rfl rfl ?_
  refine P_ld 9 (.int (i32 v1)) rfl (fun _ => rfl) ?_
  refine P_iast2 (a' := [(76, upI (m.2 76) (m.1 73) v1)]) 10 76 (m.2 76) rfl rfl rfl (Cn_i hm 73 rfl) rfl rfl ?_
  refine P_gf 14 (.ref 239) rfl rfl rfl rfl rfl rfl ?_
  refine P_gf 18 (.int (i32 (m.1 73))) rfl rfl rfl rfl rfl rfl ?_
  refine P_ld 19 (.int (i32 v2)) rfl (fun _ => rfl) ?_
  refine P_iast2 (a' := [(76, upI (m.2 76) (m.1 73) v1), (77, upI (m.2 77) (m.1 73) v2)]) 20 77 (m.2 77) rfl rfl rfl (Cn_i hm 73 rfl) rfl rfl ?_
  refine P_gf 24 (.ref 240) rfl rfl rfl rfl rfl rfl ?_
  refine P_gf 28 (.int (i32 (m.1 73))) rfl rfl rfl rfl rfl rfl ?_
  refine P_ld 29 (.int (i32 v3)) rfl (fun _ => rfl) ?_
  refine P_iast2 (a' := [(76, upI (m.2 76) (m.1 73) v1), (77, upI (m.2 77) (m.1 73) v2), (78, upI (m.2 78) (m.1 73) v3)]) 30 78 (m.2 78) rfl rfl rfl (Cn_i hm 73 rfl) rfl rfl ?_
  refine P_gf 34 (.ref 241) rfl rfl rfl rfl rfl rfl ?_
  refine P_gf 38 (.int (i32 (m.1 73))) rfl rfl rfl rfl rfl rfl ?_
  refine P_ld 39 (.int (i32 0)) rfl (fun _ => rfl) ?_
  refine P_iast2 (a' := [(76, upI (m.2 76) (m.1 73) v1), (77, upI (m.2 77) (m.1 73) v2), (78, upI (m.2 78) (m.1 73) v3), (79, upI (m.2 79) (m.1 73) 0)]) 40 79 (m.2 79) rfl rfl rfl (Cn_i hm 73 rfl) rfl rfl ?_
  refine P_ld 41 (.int (i32 0)) rfl (fun _ => rfl) ?_
  refine P_sto 43 [(4, .int (i32 0)), (0, .ref 189), (1, .int (i32 v1)), (2, .int (i32 v2)), (3, .int (i32 v3))] rfl (fun _ => rfl) ?_
  refine P_lv (b := [(0, .ref 189), (1, .int (i32 v1)), (2, .int (i32 v2)), (3, .int (i32 v3)), (4, .int (i32 0))]) rfl rfl ⟨rfl, rfl, rfl, rfl, rfl, trivial⟩ ?_
  refine P_bnd ?_
  refine P_whl (fun bb Q2 H1 H2 s9 j9 hs9 => dh_open_43 w c N D bb Q2 H1 H2 s9 j9 hs9) bb (fun e4 j q5 => ?_) (0, (mO m [] [(76, upI (m.2 76) (m.1 73) v1), (77, upI (m.2 77) (m.1 73) v2), (78, upI (m.2 78) (m.1 73) v3), (79, upI (m.2 79) (m.1 73) 0)])) (jk [(1, v1), (2, v2), (3, v3)]) ⟨(l32 0 rfl), (Cn_mO hm trivial ⟨(rE_ui (Cn_a hm 76) rfl q1), (rE_ui (Cn_a hm 77) rfl q2), (rE_ui (Cn_a hm 78) rfl q3), (rE_ui (Cn_a hm 79) rfl (l32 0 rfl)), trivial⟩)⟩
  have q6 := q5
  show PP bb w D pm_246 (72, [(0, .ref 189), (1, .int (i32 (j 1))), (2, .int (i32 (j 2))), (3, .int (i32 (j 3))), (4, .int (i32 (j 4)))], [], (mhp (mO e4 [] []) c, N), 0, 0) (QS _ (rfl_open_72 e4))
  exact dg_open_72 w c N D bb e4 q6 (jk [(1, j 1), (2, j 2), (3, j 3), (4, j 4)])
def rfl_beginChoice_54 (m : mR) : Option (Int × mR) :=
  some (0, (mO m [(75, 0)] []))
theorem dg_beginChoice_54 (w : wX) (c : Nat → Option am_C) (N D : Nat) (bb : Nat) (m : mR) (hm : Cn m) (j : Nat → Int) : PP bb w D pm_245 (54, [(0, .ref 189)], [], (mhp m c, N), 0, 0) (QS (FR0 c N) (rfl_beginChoice_54 m)) := by
  unfold rfl_beginChoice_54
  show PP bb w D pm_245 (54, [(0, .ref 189)], [], (mhp (mO m [] []) c, N), 0, 0) _
  refine P_ld 55 (.ref 189) rfl (fun _ => rfl) ?_
  refine P_ld 56 (.int (i32 0)) rfl (fun _ => rfl) ?_
  refine P_pf (l' := [(75, 0)]) 59 0 rfl rfl rfl rfl rfl rfl ?_
  exact P_re0 rfl rfl (Cn_mO hm ⟨(rV_i rfl (l32 0 rfl)), trivial⟩ trivial)
def rfl_beginChoice_26 (m : mR) : Option (Int × mR) :=
  if m.1 10 ≤ 0 then
    bnd (rf_open 0 (m.1 8) 0 (mO m [(74, cut ((m.1 74) + 1))] [])) fun y2 =>
    rfl_beginChoice_54 y2.2
  else
    some (0, m)
theorem dg_beginChoice_26 (w : wX) (c : Nat → Option am_C) (N D : Nat) (bb : Nat) (m : mR) (hm : Cn m) (j : Nat → Int) : PP bb w D pm_245 (26, [(0, .ref 189)], [], (mhp m c, N), 0, 0) (QS (FR0 c N) (rfl_beginChoice_26 m)) := by
  unfold rfl_beginChoice_26
  show PP bb w D pm_245 (26, [(0, .ref 189)], [], (mhp (mO m [] []) c, N), 0, 0) _
  refine P_gf 30 (.int (i32 (m.1 10))) rfl rfl rfl rfl rfl rfl ?_
  refine P_ifF 34 33 rfl rfl rfl (Cn_i hm 10 rfl) rfl (fun h1 => ?_) (fun h1 => ?_)
  · skip
    refine P_ld 35 (.ref 189) rfl (fun _ => rfl) ?_
    refine P_ld 36 (.ref 189) rfl (fun _ => rfl) ?_
    refine P_gf1 39 (.int (i32 (m.1 74))) rfl rfl rfl rfl ?_
    refine P_ld 40 (.int (i32 1)) rfl (fun _ => rfl) ?_
    refine P_op 41 (cut ((m.1 74) + 1)) _ rfl (fun _ => rfl) o_add ?_
    refine P_pf (l' := [(74, cut ((m.1 74) + 1))]) 44 (cut ((m.1 74) + 1)) rfl rfl rfl rfl rfl rfl ?_
    refine P_ld 45 (.ref 189) rfl (fun _ => rfl) ?_
    refine P_ld 46 (.int (i32 0)) rfl (fun _ => rfl) ?_
    refine P_gf 50 (.int (i32 (m.1 8))) rfl rfl rfl rfl rfl rfl ?_
    refine P_ld 51 (.int (i32 0)) rfl (fun _ => rfl) ?_
    refine P_ca0 54 246 [.ref 189, .int (i32 0), .int (i32 (m.1 8)), .int (i32 0)] [] rfl (fun _ => rfl) rfl (D_open w (mO m [(74, cut ((m.1 74) + 1))] []) c N D (Cn_mO hm ⟨(rV_i rfl cut_r), trivial⟩ trivial) 0 (m.1 8) 0 (l32 0 rfl) (Cn_i hm 8 rfl) (l32 0 rfl)) (fun y2 n4 => ?_)
    exact dg_beginChoice_54 w c N D bb y2.2 n4 (jk [])
  · skip
    exact P_re0 rfl rfl hm
def rf_beginChoice (m : mR) : Option (Int × mR) :=
  if m.1 10 ≤ 0 then
    if m.1 74 = 24 then
      bnd (rf_wrong 4 (m.1 8) m) fun y7 =>
      rfl_beginChoice_26 y7.2
    else
      rfl_beginChoice_26 m
  else
    some (0, m)
theorem D_beginChoice (w : wX) (m : mR) (c : Nat → Option am_C) (N D : Nat) (hm : Cn m) : PC w D 245 [.ref 189] (mhp m c, N) (QS (FR0 c N) (rf_beginChoice m)) := by
  refine Pc_of (fun D bb => ?_) D
  unfold rf_beginChoice
  show PP bb w D pm_245 (0, [(0, .ref 189)], [], (mhp (mO m [] []) c, N), 0, 0) _
  refine P_gf 4 (.int (i32 (m.1 10))) rfl rfl rfl rfl rfl rfl ?_
  refine P_ifF 8 7 rfl rfl rfl (Cn_i hm 10 rfl) rfl (fun h5 => ?_) (fun h5 => ?_)
  · skip
    refine P_gf 12 (.int (i32 (m.1 74))) rfl rfl rfl rfl rfl rfl ?_
    refine P_ld 14 (.int (i32 24)) rfl (fun _ => rfl) ?_
    refine P_icE 26 17 rfl rfl rfl (Cn_i hm 74 rfl) (l32 24 rfl) rfl (fun h6 => ?_) (fun h6 => ?_)
    · skip
      refine P_ld 18 (.ref 189) rfl (fun _ => rfl) ?_
      refine P_ld 19 (.int (i32 4)) rfl (fun _ => rfl) ?_
      refine P_gf 23 (.int (i32 (m.1 8))) rfl rfl rfl rfl rfl rfl ?_
      refine P_ca0 26 222 [.ref 189, .int (i32 4), .int (i32 (m.1 8))] [] rfl (fun _ => rfl) rfl (D_wrong w m c N D hm 4 (m.1 8) (l32 4 rfl) (Cn_i hm 8 rfl)) (fun y7 n9 => ?_)
      exact dg_beginChoice_26 w c N D bb y7.2 n9 (jk [])
    · skip
      exact dg_beginChoice_26 w c N D bb m hm (jk [])
  · skip
    exact P_re0 rfl rfl hm
def rfl_node_26 (v1 : Int) (v2 : Int) (v3 : Int) (v4 : Int) (m : mR) : Option (Int × mR) :=
  if m.1 10 ≤ 0 then
    some (0, (mO m [(28, cut ((m.1 28) + 1))] [(65, upI (m.2 65) (m.1 28) v1), (66, upI (m.2 66) (m.1 28) v2), (67, upI (m.2 67) (m.1 28) v3), (68, upI (m.2 68) (m.1 28) v4)]))
  else
    some (0, m)
theorem dg_node_26 (w : wX) (c : Nat → Option am_C) (N D : Nat) (bb : Nat) (v1 : Int) (v2 : Int) (v3 : Int) (v4 : Int) (q1 : R32 v1) (q2 : R32 v2) (q3 : R32 v3) (q4 : R64 v4) (m : mR) (hm : Cn m) (j : Nat → Int) : PP bb w D pm_248 (26, [(0, .ref 189), (1, .int (i32 v1)), (2, .int (i32 v2)), (3, .int (i32 v3)), (4, .long (i64 v4))], [], (mhp m c, N), 0, 0) (QS (FR0 c N) (rfl_node_26 v1 v2 v3 v4 m)) := by
  unfold rfl_node_26
  show PP bb w D pm_248 (26, [(0, .ref 189), (1, .int (i32 v1)), (2, .int (i32 v2)), (3, .int (i32 v3)), (4, .long (i64 v4))], [], (mhp (mO m [] []) c, N), 0, 0) _
  refine P_gf 30 (.int (i32 (m.1 10))) rfl rfl rfl rfl rfl rfl ?_
  refine P_ifF 34 33 rfl rfl rfl (Cn_i hm 10 rfl) rfl (fun h1 => ?_) (fun h1 => ?_)
  · skip
    refine P_gf 38 (.ref 234) rfl rfl rfl rfl rfl rfl ?_
    refine P_gf 42 (.int (i32 (m.1 28))) rfl rfl rfl rfl rfl rfl ?_
    refine P_ld 43 (.int (i32 v1)) rfl (fun _ => rfl) ?_
    refine P_iast2 (a' := [(65, upI (m.2 65) (m.1 28) v1)]) 44 65 (m.2 65) rfl rfl rfl (Cn_i hm 28 rfl) rfl rfl ?_
    refine P_gf 48 (.ref 235) rfl rfl rfl rfl rfl rfl ?_
    refine P_gf 52 (.int (i32 (m.1 28))) rfl rfl rfl rfl rfl rfl ?_
    refine P_ld 53 (.int (i32 v2)) rfl (fun _ => rfl) ?_
    refine P_iast2 (a' := [(65, upI (m.2 65) (m.1 28) v1), (66, upI (m.2 66) (m.1 28) v2)]) 54 66 (m.2 66) rfl rfl rfl (Cn_i hm 28 rfl) rfl rfl ?_
    refine P_gf 58 (.ref 236) rfl rfl rfl rfl rfl rfl ?_
    refine P_gf 62 (.int (i32 (m.1 28))) rfl rfl rfl rfl rfl rfl ?_
    refine P_ld 63 (.int (i32 v3)) rfl (fun _ => rfl) ?_
    refine P_iast2 (a' := [(65, upI (m.2 65) (m.1 28) v1), (66, upI (m.2 66) (m.1 28) v2), (67, upI (m.2 67) (m.1 28) v3)]) 64 67 (m.2 67) rfl rfl rfl (Cn_i hm 28 rfl) rfl rfl ?_
    refine P_gf 68 (.ref 237) rfl rfl rfl rfl rfl rfl ?_
    refine P_gf 72 (.int (i32 (m.1 28))) rfl rfl rfl rfl rfl rfl ?_
    refine P_ld 74 (.long (i64 v4)) rfl (fun _ => rfl) ?_
    refine P_last2 (a' := [(65, upI (m.2 65) (m.1 28) v1), (66, upI (m.2 66) (m.1 28) v2), (67, upI (m.2 67) (m.1 28) v3), (68, upI (m.2 68) (m.1 28) v4)]) 75 68 (m.2 68) rfl rfl rfl (Cn_i hm 28 rfl) rfl rfl ?_
    refine P_ld 76 (.ref 189) rfl (fun _ => rfl) ?_
    refine P_ld 77 (.ref 189) rfl (fun _ => rfl) ?_
    refine P_gf1 80 (.int (i32 (m.1 28))) rfl rfl rfl rfl ?_
    refine P_ld 81 (.int (i32 1)) rfl (fun _ => rfl) ?_
    refine P_op 82 (cut ((m.1 28) + 1)) _ rfl (fun _ => rfl) o_add ?_
    refine P_pf (l' := [(28, cut ((m.1 28) + 1))]) 85 (cut ((m.1 28) + 1)) rfl rfl rfl rfl rfl rfl ?_
    exact P_re0 rfl rfl (Cn_mO hm ⟨(rV_i rfl cut_r), trivial⟩ ⟨(rE_ui (Cn_a hm 65) rfl q1), (rE_ui (Cn_a hm 66) rfl q2), (rE_ui (Cn_a hm 67) rfl q3), (rE_ul (Cn_a hm 68) rfl q4), trivial⟩)
  · skip
    exact P_re0 rfl rfl hm
def rf_node (v1 : Int) (v2 : Int) (v3 : Int) (v4 : Int) (m : mR) : Option (Int × mR) :=
  if m.1 10 = 0 then
    if m.1 28 = 800 then
      bnd (rf_wrong 4 (m.1 8) m) fun y4 =>
      rfl_node_26 v1 v2 v3 v4 y4.2
    else
      rfl_node_26 v1 v2 v3 v4 m
  else
    rfl_node_26 v1 v2 v3 v4 m
theorem D_node (w : wX) (m : mR) (c : Nat → Option am_C) (N D : Nat) (hm : Cn m) (v1 : Int) (v2 : Int) (v3 : Int) (v4 : Int) (q1 : R32 v1) (q2 : R32 v2) (q3 : R32 v3) (q4 : R64 v4) : PC w D 248 [.ref 189, .int (i32 v1), .int (i32 v2), .int (i32 v3), .long (i64 v4)] (mhp m c, N) (QS (FR0 c N) (rf_node v1 v2 v3 v4 m)) := by
  refine Pc_of (fun D bb => ?_) D
  unfold rf_node
  show PP bb w D pm_248 (0, [(0, .ref 189), (1, .int (i32 v1)), (2, .int (i32 v2)), (3, .int (i32 v3)), (4, .long (i64 v4))], [], (mhp (mO m [] []) c, N), 0, 0) _
  refine P_gf 4 (.int (i32 (m.1 10))) rfl rfl rfl rfl rfl rfl ?_
  refine P_ifE 26 7 rfl rfl rfl (Cn_i hm 10 rfl) rfl (fun h2 => ?_) (fun h2 => ?_)
  · skip
    refine P_gf 11 (.int (i32 (m.1 28))) rfl rfl rfl rfl rfl rfl ?_
    refine P_ld 14 (.int (i32 800)) rfl (fun _ => rfl) ?_
    refine P_icE 26 17 rfl rfl rfl (Cn_i hm 28 rfl) (l32 800 rfl) rfl (fun h3 => ?_) (fun h3 => ?_)
    · skip
      refine P_ld 18 (.ref 189) rfl (fun _ => rfl) ?_
      refine P_ld 19 (.int (i32 4)) rfl (fun _ => rfl) ?_
      refine P_gf 23 (.int (i32 (m.1 8))) rfl rfl rfl rfl rfl rfl ?_
      refine P_ca0 26 222 [.ref 189, .int (i32 4), .int (i32 (m.1 8))] [] rfl (fun _ => rfl) rfl (D_wrong w m c N D hm 4 (m.1 8) (l32 4 rfl) (Cn_i hm 8 rfl)) (fun y4 n6 => ?_)
      exact dg_node_26 w c N D bb v1 v2 v3 v4 q1 q2 q3 q4 y4.2 n6 (jk [])
    · skip
      exact dg_node_26 w c N D bb v1 v2 v3 v4 q1 q2 q3 q4 m hm (jk [])
  · skip
    exact dg_node_26 w c N D bb v1 v2 v3 v4 q1 q2 q3 q4 m hm (jk [])
def rf_unit (v1 : Int) (v2 : Int) (m : mR) : Option (Int × mR) :=
  some (0, (mO m [(69, v1), (70, v2), (71, 0), (72, 0)] []))
theorem D_unit (w : wX) (m : mR) (c : Nat → Option am_C) (N D : Nat) (hm : Cn m) (v1 : Int) (v2 : Int) (q1 : R32 v1) (q2 : R32 v2) : PC w D 250 [.ref 189, .int (i32 v1), .int (i32 v2)] (mhp m c, N) (QS (FR0 c N) (rf_unit v1 v2 m)) := by
  refine Pc_of (fun D bb => ?_) D
  unfold rf_unit
  show PP bb w D pm_250 (0, [(0, .ref 189), (1, .int (i32 v1)), (2, .int (i32 v2))], [], (mhp (mO m [] []) c, N), 0, 0) _
  refine P_ld 1 (.ref 189) rfl (fun _ => rfl) ?_
  refine P_ld 2 (.int (i32 v1)) rfl (fun _ => rfl) ?_
  refine P_pf (l' := [(69, v1)]) 5 v1 rfl rfl rfl rfl rfl rfl ?_
  refine P_ld 6 (.ref 189) rfl (fun _ => rfl) ?_
  refine P_ld 7 (.int (i32 v2)) rfl (fun _ => rfl) ?_
  refine P_pf (l' := [(69, v1), (70, v2)]) 10 v2 rfl rfl rfl rfl rfl rfl ?_
  refine P_ld 11 (.ref 189) rfl (fun _ => rfl) ?_
  refine P_ld 12 (.int (i32 0)) rfl (fun _ => rfl) ?_
  refine P_pf (l' := [(69, v1), (70, v2), (71, 0)]) 15 0 rfl rfl rfl rfl rfl rfl ?_
  refine P_ld 16 (.ref 189) rfl (fun _ => rfl) ?_
  refine P_ld 17 (.long (i64 0)) rfl (fun _ => rfl) ?_
  refine P_pf (l' := [(69, v1), (70, v2), (71, 0), (72, 0)]) 20 0 rfl rfl rfl rfl rfl rfl ?_
  exact P_re0 rfl rfl (Cn_mO hm ⟨(rV_i rfl q1), (rV_i rfl q2), (rV_i rfl (l32 0 rfl)), (rV_l rfl (l64 0 rfl)), trivial⟩ trivial)
def rfl_atom_14 (m : mR) : Option (Int × mR) :=
  some (0, (mO m [(75, 1)] []))
theorem dg_atom_14 (w : wX) (c : Nat → Option am_C) (N D : Nat) (bb : Nat) (m : mR) (hm : Cn m) (j : Nat → Int) : PP bb w D pm_249 (14, [(0, .ref 189), (1, .int (i32 (j 1))), (2, .int (i32 (j 2)))], [], (mhp m c, N), 0, 0) (QS (FR0 c N) (rfl_atom_14 m)) := by
  unfold rfl_atom_14
  show PP bb w D pm_249 (14, [(0, .ref 189), (1, .int (i32 (j 1))), (2, .int (i32 (j 2)))], [], (mhp (mO m [] []) c, N), 0, 0) _
  refine P_ld 15 (.ref 189) rfl (fun _ => rfl) ?_
  refine P_ld 16 (.int (i32 1)) rfl (fun _ => rfl) ?_
  refine P_pf (l' := [(75, 1)]) 19 1 rfl rfl rfl rfl rfl rfl ?_
  exact P_re0 rfl rfl (Cn_mO hm ⟨(rV_i rfl (l32 1 rfl)), trivial⟩ trivial)
def rf_atom (v1 : Int) (v2 : Int) (m : mR) : Option (Int × mR) :=
  if m.1 10 ≤ 0 then
    bnd (rf_unit v1 v2 m) fun y2 =>
    rfl_atom_14 y2.2
  else
    some (0, m)
theorem D_atom (w : wX) (m : mR) (c : Nat → Option am_C) (N D : Nat) (hm : Cn m) (v1 : Int) (v2 : Int) (q1 : R32 v1) (q2 : R32 v2) : PC w D 249 [.ref 189, .int (i32 v1), .int (i32 v2)] (mhp m c, N) (QS (FR0 c N) (rf_atom v1 v2 m)) := by
  refine Pc_of (fun D bb => ?_) D
  unfold rf_atom
  show PP bb w D pm_249 (0, [(0, .ref 189), (1, .int (i32 v1)), (2, .int (i32 v2))], [], (mhp (mO m [] []) c, N), 0, 0) _
  refine P_gf 4 (.int (i32 (m.1 10))) rfl rfl rfl rfl rfl rfl ?_
  refine P_ifF 8 7 rfl rfl rfl (Cn_i hm 10 rfl) rfl (fun h1 => ?_) (fun h1 => ?_)
  · skip
    refine P_ld 9 (.ref 189) rfl (fun _ => rfl) ?_
    refine P_ld 10 (.int (i32 v1)) rfl (fun _ => rfl) ?_
    refine P_ld 11 (.int (i32 v2)) rfl (fun _ => rfl) ?_
    refine P_ca0 14 250 [.ref 189, .int (i32 v1), .int (i32 v2)] [] rfl (fun _ => rfl) rfl (D_unit w m c N D hm v1 v2 q1 q2) (fun y2 n4 => ?_)
    exact dg_atom_14 w c N D bb y2.2 n4 (jk [(1, v1), (2, v2)])
  · skip
    exact P_re0 rfl rfl hm
def cs_parameterHere_16 (s : Int × Int) : Prop := R32 s.1 ∧ R32 s.2
def cx_parameterHere_16 : (Int) → Prop := (fun (e : Int) => R32 e)
def hd_parameterHere_16 (c : Nat → Option am_C) (N : Nat) (m : mR) (s : Int × Int) (j : Nat → Int) : ag_St af_T := (16, [(0, .ref 189), (1, .int (i32 s.1)), (2, .int (i32 s.2))], [], (mhp m c, N), 0, 0)
def ex_parameterHere_16 (c : Nat → Option am_C) (N : Nat) (m : mR) : (Int) → (Nat → Int) → ag_St af_T := (fun (e : Int) (j : Nat → Int) => ((63, [(0, .ref 189), (1, .int (i32 e)), (2, .int (i32 (j 2)))], [], (mhp m c, N), 0, 0) : ag_St af_T))
def rfl_parameterHere_57 (v1 : Int) (v2 : Int) (m : mR) : Option (Sum (Int × Int) (Int)) :=
  some (.inl (v1, cut (v2 + 1)))
theorem dg_parameterHere_57 (w : wX) (c : Nat → Option am_C) (N D : Nat) (bb : Nat) (v1 : Int) (v2 : Int) (q1 : R32 v1) (q2 : R32 v2) (m : mR) (hm : Cn m) (j : Nat → Int) (Q2 : Sum (Int × Int) (Int) → ag_Re af_T → Prop) (H1 : ∀ s j, cs_parameterHere_16 s → PP bb w D pm_252 (hd_parameterHere_16 c N m s j) (Q2 (.inl s))) (H2 : ∀ x j, cx_parameterHere_16 x → PP bb w D pm_252 (ex_parameterHere_16 c N m x j) (Q2 (.inr x))) : PP bb w D pm_252 (57, [(0, .ref 189), (1, .int (i32 v1)), (2, .int (i32 v2))], [], (mhp m c, N), 0, 0) (QS Q2 (rfl_parameterHere_57 v1 v2 m)) := by
  unfold rfl_parameterHere_57
  show PP bb w D pm_252 (57, [(0, .ref 189), (1, .int (i32 v1)), (2, .int (i32 v2))], [], (mhp (mO m [] []) c, N), 0, 0) _
  refine P_inc 60 [(2, .int (i32 (cut (v2 + 1)))), (0, .ref 189), (1, .int (i32 v1))] rfl rfl (by decide) rfl rfl ?_
  refine P_goto 16 rfl (fun _ => rfl) ?_
  refine P_some ?_
  refine P_lv (b := [(0, .ref 189), (1, .int (i32 v1)), (2, .int (i32 (cut (v2 + 1))))]) rfl rfl ⟨rfl, rfl, rfl, trivial⟩ ?_
  exact H1 (v1, cut (v2 + 1)) (jk []) ⟨q1, cut_r⟩
def rfb_parameterHere_16 (m : mR) (s : Int × Int) : Option (Sum (Int × Int) (Int)) :=
  if cut ((cut (4 * (m.1 64))) + ((m.2 46) (m.1 64))) ≤ s.2 then
    some (.inr s.1)
  else
    bnd (rf_isHere ((m.2 47) s.2) ((m.2 48) s.2) m) fun y4 =>
    if y4 = 0 then
      rfl_parameterHere_57 s.1 s.2 m
    else
      rfl_parameterHere_57 s.2 s.2 m
theorem dh_parameterHere_16 (w : wX) (c : Nat → Option am_C) (N D : Nat) (m : mR) (hm : Cn m) (bb : Nat) (Q2 : Sum (Int × Int) (Int) → ag_Re af_T → Prop) (H1 : ∀ s j, cs_parameterHere_16 s → PP bb w D pm_252 (hd_parameterHere_16 c N m s j) (Q2 (.inl s))) (H2 : ∀ x j, cx_parameterHere_16 x → PP bb w D pm_252 (ex_parameterHere_16 c N m x j) (Q2 (.inr x))) (s : Int × Int) (j : Nat → Int) (hs : cs_parameterHere_16 s) : PP (bb + 1) w D pm_252 (hd_parameterHere_16 c N m s j) (QS Q2 (rfb_parameterHere_16 m s)) := by
  obtain ⟨g1, g2⟩ := hs
  unfold rfb_parameterHere_16
  show PP (bb + 1) w D pm_252 (16, [(0, .ref 189), (1, .int (i32 s.1)), (2, .int (i32 s.2))], [], (mhp (mO m [] []) c, N), 0, 0) _
  refine P1_ld 17 (.int (i32 s.2)) rfl (fun _ => rfl) ?_
  refine P_ld 18 (.int (i32 4)) rfl (fun _ => rfl) ?_
  refine P_gf 22 (.int (i32 (m.1 64))) rfl rfl rfl rfl rfl rfl ?_
  refine P_op 23 (cut (4 * (m.1 64))) _ rfl (fun _ => rfl) o_mul ?_
  refine P_gf 27 (.ref 216) rfl rfl rfl rfl rfl rfl ?_
  refine P_gf 31 (.int (i32 (m.1 64))) rfl rfl rfl rfl rfl rfl ?_
  refine P_iald2 32 46 (m.2 46) rfl rfl rfl (Cn_i hm 64 rfl) rfl ?_
  refine P_op 33 (cut ((cut (4 * (m.1 64))) + ((m.2 46) (m.1 64)))) _ rfl (fun _ => rfl) o_add ?_
  refine P_icF 63 36 rfl rfl rfl g2 cut_r rfl (fun h3 => ?_) (fun h3 => ?_)
  · skip
    refine P_some ?_
    exact H2 s.1 (jk [(2, s.2)]) g1
  · skip
    refine P_ld 37 (.ref 189) rfl (fun _ => rfl) ?_
    refine P_gf 41 (.ref 217) rfl rfl rfl rfl rfl rfl ?_
    refine P_ld 42 (.int (i32 s.2)) rfl (fun _ => rfl) ?_
    refine P_iald2 43 47 (m.2 47) rfl rfl rfl g2 rfl ?_
    refine P_gf 47 (.ref 218) rfl rfl rfl rfl rfl rfl ?_
    refine P_ld 48 (.int (i32 s.2)) rfl (fun _ => rfl) ?_
    refine P_iald2 49 48 (m.2 48) rfl rfl rfl g2 rfl ?_
    refine P_cp1 52 230 [.ref 189, .int (i32 ((m.2 47) s.2)), .int (i32 ((m.2 48) s.2))] [] rfl (fun _ => rfl) rfl (D_isHere w m c N D hm ((m.2 47) s.2) ((m.2 48) s.2) (rE_i (Cn_a hm 47) rfl _) (rE_i (Cn_a hm 48) rfl _)) (fun y4 h5 => ?_)
    refine P_ifF 57 55 rfl rfl rfl h5 rfl (fun h6 => ?_) (fun h6 => ?_)
    · skip
      exact dg_parameterHere_57 w c N D bb s.1 s.2 g1 g2 m hm (jk []) Q2 H1 H2
    · skip
      refine P_ld 56 (.int (i32 s.2)) rfl (fun _ => rfl) ?_
      refine P_sto 57 [(1, .int (i32 s.2)), (0, .ref 189), (2, .int (i32 s.2))] rfl (fun _ => rfl) ?_
      refine P_lv (b := [(0, .ref 189), (1, .int (i32 s.2)), (2, .int (i32 s.2))]) rfl rfl ⟨rfl, rfl, rfl, trivial⟩ ?_
      exact dg_parameterHere_57 w c N D bb s.2 s.2 g2 g2 m hm (jk []) Q2 H1 H2
def rf_parameterHere (m : mR) : Option Int :=
  if m.1 64 < 0 then
    some (-1)
  else
    bnd (whl (rfb_parameterHere_16 m) ((-1), cut (4 * (m.1 64)))) (fun e8 : Int =>
      some e8)
theorem D_parameterHere (w : wX) (m : mR) (c : Nat → Option am_C) (N D : Nat) (hm : Cn m) : PC w D 252 [.ref 189] (mhp m c, N) (QS (FP1 (mhp m c, N)) (rf_parameterHere m)) := by
  refine Pc_of (fun D bb => ?_) D
  unfold rf_parameterHere
  show PP bb w D pm_252 (0, [(0, .ref 189)], [], (mhp (mO m [] []) c, N), 0, 0) _
  refine P_ld 1 (.int (i32 (-1))) rfl (fun _ => rfl) ?_
  refine P_sto 2 [(1, .int (i32 (-1))), (0, .ref 189)] rfl (fun _ => rfl) ?_
  refine P_gf 6 (.int (i32 (m.1 64))) rfl rfl rfl rfl rfl rfl ?_
  refine P_ifF 63 9 rfl rfl rfl (Cn_i hm 64 rfl) rfl (fun h7 => ?_) (fun h7 => ?_)
  · skip
    refine P_ld 64 (.int (i32 (-1))) rfl (fun _ => rfl) ?_
    exact P_rp1 rfl (l32 (-1) rfl)
  · skip
    refine P_ld 10 (.int (i32 4)) rfl (fun _ => rfl) ?_
    refine P_gf 14 (.int (i32 (m.1 64))) rfl rfl rfl rfl rfl rfl ?_
    refine P_op 15 (cut (4 * (m.1 64))) _ rfl (fun _ => rfl) o_mul ?_
    refine P_sto 16 [(2, .int (i32 (cut (4 * (m.1 64))))), (1, .int (i32 (-1))), (0, .ref 189)] rfl (fun _ => rfl) ?_
    refine P_lv (b := [(0, .ref 189), (1, .int (i32 (-1))), (2, .int (i32 (cut (4 * (m.1 64)))))]) rfl rfl ⟨rfl, rfl, rfl, trivial⟩ ?_
    refine P_bnd ?_
    refine P_whl (fun bb Q2 H1 H2 s9 j9 hs9 => dh_parameterHere_16 w c N D m hm bb Q2 H1 H2 s9 j9 hs9) bb (fun e8 j q9 => ?_) ((-1), cut (4 * (m.1 64))) (jk []) ⟨(l32 (-1) rfl), cut_r⟩
    have q10 := q9
    show PP bb w D pm_252 (63, [(0, .ref 189), (1, .int (i32 e8)), (2, .int (i32 (j 2)))], [], (mhp (mO m [] []) c, N), 0, 0) (QS _ (some e8))
    refine P_ld 64 (.int (i32 e8)) rfl (fun _ => rfl) ?_
    exact P_rp1 rfl q10
def cs_takeField_38 (s : Int × Int) : Prop := R32 s.1 ∧ R32 s.2
def cx_takeField_38 : (Int) → Prop := (fun (e : Int) => R32 e)
def hd_takeField_38 (c : Nat → Option am_C) (N : Nat) (v1 : Int) (v2 : Int) (m : mR) (s : Int × Int) (j : Nat → Int) : ag_St af_T := (38, [(0, .ref 189), (1, .int (i32 v1)), (2, .int (i32 v2)), (3, .int (i32 s.1)), (4, .int (i32 s.2))], [], (mhp m c, N), 0, 0)
def ex_takeField_38 (c : Nat → Option am_C) (N : Nat) (v1 : Int) (v2 : Int) (m : mR) : (Int) → (Nat → Int) → ag_St af_T := (fun (e : Int) (j : Nat → Int) => ((88, [(0, .ref 189), (1, .int (i32 v1)), (2, .int (i32 v2)), (3, .int (i32 e)), (4, .int (i32 (j 4)))], [], (mhp m c, N), 0, 0) : ag_St af_T))
def rfl_takeField_115 (v1 : Int) (v2 : Int) (v3 : Int) (m : mR) : Option (Int × mR) :=
  some (cut ((cut ((cut (16 * v1)) + v3)) - (cut (16 * v2))), m)
theorem dg_takeField_115 (w : wX) (c : Nat → Option am_C) (N D : Nat) (bb : Nat) (v1 : Int) (v2 : Int) (v3 : Int) (q1 : R32 v1) (q2 : R32 v2) (q3 : R32 v3) (m : mR) (hm : Cn m) (j : Nat → Int) : PP bb w D pm_253 (115, [(0, .ref 189), (1, .int (i32 v1)), (2, .int (i32 v2)), (3, .int (i32 v3)), (4, .int (i32 (j 4)))], [], (mhp m c, N), 0, 0) (QS (FR1 c N) (rfl_takeField_115 v1 v2 v3 m)) := by
  unfold rfl_takeField_115
  show PP bb w D pm_253 (115, [(0, .ref 189), (1, .int (i32 v1)), (2, .int (i32 v2)), (3, .int (i32 v3)), (4, .int (i32 (j 4)))], [], (mhp (mO m [] []) c, N), 0, 0) _
  refine P_ld 117 (.int (i32 16)) rfl (fun _ => rfl) ?_
  refine P_ld 118 (.int (i32 v1)) rfl (fun _ => rfl) ?_
  refine P_op 119 (cut (16 * v1)) _ rfl (fun _ => rfl) o_mul ?_
  refine P_ld 120 (.int (i32 v3)) rfl (fun _ => rfl) ?_
  refine P_op 121 (cut ((cut (16 * v1)) + v3)) _ rfl (fun _ => rfl) o_add ?_
  refine P_ld 123 (.int (i32 16)) rfl (fun _ => rfl) ?_
  refine P_ld 124 (.int (i32 v2)) rfl (fun _ => rfl) ?_
  refine P_op 125 (cut (16 * v2)) _ rfl (fun _ => rfl) o_mul ?_
  refine P_op 126 (cut ((cut ((cut (16 * v1)) + v3)) - (cut (16 * v2)))) _ rfl (fun _ => rfl) o_sub ?_
  exact P_re1 rfl cut_r hm
def rfl_takeField_102 (v1 : Int) (v2 : Int) (v3 : Int) (m : mR) : Option (Int × mR) :=
  if m.1 10 ≤ 0 then
    bnd (rf_next m) fun y3 =>
    rfl_takeField_115 v1 v2 v3 y3.2
  else
    some (0, m)
theorem dg_takeField_102 (w : wX) (c : Nat → Option am_C) (N D : Nat) (bb : Nat) (v1 : Int) (v2 : Int) (v3 : Int) (q1 : R32 v1) (q2 : R32 v2) (q3 : R32 v3) (m : mR) (hm : Cn m) (j : Nat → Int) : PP bb w D pm_253 (102, [(0, .ref 189), (1, .int (i32 v1)), (2, .int (i32 v2)), (3, .int (i32 v3)), (4, .int (i32 (j 4)))], [], (mhp m c, N), 0, 0) (QS (FR1 c N) (rfl_takeField_102 v1 v2 v3 m)) := by
  unfold rfl_takeField_102
  show PP bb w D pm_253 (102, [(0, .ref 189), (1, .int (i32 v1)), (2, .int (i32 v2)), (3, .int (i32 v3)), (4, .int (i32 (j 4)))], [], (mhp (mO m [] []) c, N), 0, 0) _
  refine P_gf 106 (.int (i32 (m.1 10))) rfl rfl rfl rfl rfl rfl ?_
  refine P_ifF 111 109 rfl rfl rfl (Cn_i hm 10 rfl) rfl (fun h2 => ?_) (fun h2 => ?_)
  · skip
    refine P_ld 112 (.ref 189) rfl (fun _ => rfl) ?_
    refine P_ca0 115 212 [.ref 189] [] rfl (fun _ => rfl) rfl (D_next w m c N D hm) (fun y3 n5 => ?_)
    exact dg_takeField_115 w c N D bb v1 v2 v3 q1 q2 q3 y3.2 n5 (jk [(4, j 4)])
  · skip
    refine P_ld 110 (.int (i32 0)) rfl (fun _ => rfl) ?_
    exact P_re1 rfl (l32 0 rfl) hm
def rfl_takeField_88 (v1 : Int) (v2 : Int) (v3 : Int) (m : mR) : Option (Int × mR) :=
  if (0 : Int) ≤ v3 then
    rfl_takeField_102 v1 v2 v3 m
  else
    bnd (rf_wrong 6 (m.1 8) m) fun y7 =>
    rfl_takeField_102 v1 v2 v3 y7.2
theorem dg_takeField_88 (w : wX) (c : Nat → Option am_C) (N D : Nat) (bb : Nat) (v1 : Int) (v2 : Int) (v3 : Int) (q1 : R32 v1) (q2 : R32 v2) (q3 : R32 v3) (m : mR) (hm : Cn m) (j : Nat → Int) : PP bb w D pm_253 (88, [(0, .ref 189), (1, .int (i32 v1)), (2, .int (i32 v2)), (3, .int (i32 v3)), (4, .int (i32 (j 4)))], [], (mhp m c, N), 0, 0) (QS (FR1 c N) (rfl_takeField_88 v1 v2 v3 m)) := by
  unfold rfl_takeField_88
  show PP bb w D pm_253 (88, [(0, .ref 189), (1, .int (i32 v1)), (2, .int (i32 v2)), (3, .int (i32 v3)), (4, .int (i32 (j 4)))], [], (mhp (mO m [] []) c, N), 0, 0) _
  refine P_ld 89 (.int (i32 v3)) rfl (fun _ => rfl) ?_
  refine P_ifF 102 92 rfl rfl rfl q3 rfl (fun h6 => ?_) (fun h6 => ?_)
  · skip
    exact dg_takeField_102 w c N D bb v1 v2 v3 q1 q2 q3 m hm (jk [(4, j 4)])
  · skip
    refine P_ld 93 (.ref 189) rfl (fun _ => rfl) ?_
    refine P_ld 95 (.int (i32 6)) rfl (fun _ => rfl) ?_
    refine P_gf 99 (.int (i32 (m.1 8))) rfl rfl rfl rfl rfl rfl ?_
    refine P_ca0 102 222 [.ref 189, .int (i32 6), .int (i32 (m.1 8))] [] rfl (fun _ => rfl) rfl (D_wrong w m c N D hm 6 (m.1 8) (l32 6 rfl) (Cn_i hm 8 rfl)) (fun y7 n9 => ?_)
    exact dg_takeField_102 w c N D bb v1 v2 v3 q1 q2 q3 y7.2 n9 (jk [(4, j 4)])
def rfl_takeField_81 (v1 : Int) (v2 : Int) (v4 : Int) (u0 : Int) (m : mR) : Option (Sum (Int × Int) (Int)) :=
  some (.inl (u0, cut (v4 + 1)))
theorem dg_takeField_81 (w : wX) (c : Nat → Option am_C) (N D : Nat) (bb : Nat) (v1 : Int) (v2 : Int) (v4 : Int) (u0 : Int) (q1 : R32 v1) (q2 : R32 v2) (q4 : R32 v4) (r0 : R32 u0) (m : mR) (hm : Cn m) (j : Nat → Int) (Q2 : Sum (Int × Int) (Int) → ag_Re af_T → Prop) (H1 : ∀ s j, cs_takeField_38 s → PP bb w D pm_253 (hd_takeField_38 c N v1 v2 m s j) (Q2 (.inl s))) (H2 : ∀ x j, cx_takeField_38 x → PP bb w D pm_253 (ex_takeField_38 c N v1 v2 m x j) (Q2 (.inr x))) : PP bb w D pm_253 (81, [(0, .ref 189), (1, .int (i32 v1)), (2, .int (i32 v2)), (3, .int (i32 (j 3))), (4, .int (i32 v4))], [.int (i32 u0)], (mhp m c, N), 0, 0) (QS Q2 (rfl_takeField_81 v1 v2 v4 u0 m)) := by
  unfold rfl_takeField_81
  show PP bb w D pm_253 (81, [(0, .ref 189), (1, .int (i32 v1)), (2, .int (i32 v2)), (3, .int (i32 (j 3))), (4, .int (i32 v4))], [.int (i32 u0)], (mhp (mO m [] []) c, N), 0, 0) _
  refine P_sto 82 [(3, .int (i32 u0)), (0, .ref 189), (1, .int (i32 v1)), (2, .int (i32 v2)), (4, .int (i32 v4))] rfl (fun _ => rfl) ?_
  refine P_inc 85 [(4, .int (i32 (cut (v4 + 1)))), (3, .int (i32 u0)), (0, .ref 189), (1, .int (i32 v1)), (2, .int (i32 v2))] rfl rfl (by decide) rfl rfl ?_
  refine P_goto 38 rfl (fun _ => rfl) ?_
  refine P_some ?_
  refine P_lv (b := [(0, .ref 189), (1, .int (i32 v1)), (2, .int (i32 v2)), (3, .int (i32 u0)), (4, .int (i32 (cut (v4 + 1))))]) rfl rfl ⟨rfl, rfl, rfl, rfl, rfl, trivial⟩ ?_
  exact H1 (u0, cut (v4 + 1)) (jk []) ⟨r0, cut_r⟩
def rfb_takeField_38 (v1 : Int) (v2 : Int) (m : mR) (s : Int × Int) : Option (Sum (Int × Int) (Int)) :=
  if cut ((cut (16 * v2)) + ((m.2 29) v2)) ≤ s.2 then
    some (.inr s.1)
  else
    bnd (rf_isHere ((m.2 31) s.2) ((m.2 32) s.2) m) fun y12 =>
    if y12 = 0 then
      rfl_takeField_81 v1 v2 s.2 s.1 m
    else
      rfl_takeField_81 v1 v2 s.2 s.2 m
theorem dh_takeField_38 (w : wX) (c : Nat → Option am_C) (N D : Nat) (v1 : Int) (v2 : Int) (q1 : R32 v1) (q2 : R32 v2) (m : mR) (hm : Cn m) (bb : Nat) (Q2 : Sum (Int × Int) (Int) → ag_Re af_T → Prop) (H1 : ∀ s j, cs_takeField_38 s → PP bb w D pm_253 (hd_takeField_38 c N v1 v2 m s j) (Q2 (.inl s))) (H2 : ∀ x j, cx_takeField_38 x → PP bb w D pm_253 (ex_takeField_38 c N v1 v2 m x j) (Q2 (.inr x))) (s : Int × Int) (j : Nat → Int) (hs : cs_takeField_38 s) : PP (bb + 1) w D pm_253 (hd_takeField_38 c N v1 v2 m s j) (QS Q2 (rfb_takeField_38 v1 v2 m s)) := by
  obtain ⟨g3, g4⟩ := hs
  unfold rfb_takeField_38
  show PP (bb + 1) w D pm_253 (38, [(0, .ref 189), (1, .int (i32 v1)), (2, .int (i32 v2)), (3, .int (i32 s.1)), (4, .int (i32 s.2))], [], (mhp (mO m [] []) c, N), 0, 0) _
  refine P1_ld 40 (.int (i32 s.2)) rfl (fun _ => rfl) ?_
  refine P_ld 42 (.int (i32 16)) rfl (fun _ => rfl) ?_
  refine P_ld 43 (.int (i32 v2)) rfl (fun _ => rfl) ?_
  refine P_op 44 (cut (16 * v2)) _ rfl (fun _ => rfl) o_mul ?_
  refine P_gf 48 (.ref 199) rfl rfl rfl rfl rfl rfl ?_
  refine P_ld 49 (.int (i32 v2)) rfl (fun _ => rfl) ?_
  refine P_iald2 50 29 (m.2 29) rfl rfl rfl q2 rfl ?_
  refine P_op 51 (cut ((cut (16 * v2)) + ((m.2 29) v2))) _ rfl (fun _ => rfl) o_add ?_
  refine P_icF 88 54 rfl rfl rfl g4 cut_r rfl (fun h11 => ?_) (fun h11 => ?_)
  · skip
    refine P_some ?_
    exact H2 s.1 (jk [(4, s.2)]) g3
  · skip
    refine P_ld 55 (.ref 189) rfl (fun _ => rfl) ?_
    refine P_gf 59 (.ref 201) rfl rfl rfl rfl rfl rfl ?_
    refine P_ld 61 (.int (i32 s.2)) rfl (fun _ => rfl) ?_
    refine P_iald2 62 31 (m.2 31) rfl rfl rfl g4 rfl ?_
    refine P_gf 66 (.ref 202) rfl rfl rfl rfl rfl rfl ?_
    refine P_ld 68 (.int (i32 s.2)) rfl (fun _ => rfl) ?_
    refine P_iald2 69 32 (m.2 32) rfl rfl rfl g4 rfl ?_
    refine P_cp1 72 230 [.ref 189, .int (i32 ((m.2 31) s.2)), .int (i32 ((m.2 32) s.2))] [] rfl (fun _ => rfl) rfl (D_isHere w m c N D hm ((m.2 31) s.2) ((m.2 32) s.2) (rE_i (Cn_a hm 31) rfl _) (rE_i (Cn_a hm 32) rfl _)) (fun y12 h13 => ?_)
    refine P_ifF 80 75 rfl rfl rfl h13 rfl (fun h14 => ?_) (fun h14 => ?_)
    · skip
      refine P_ld 81 (.int (i32 s.1)) rfl (fun _ => rfl) ?_
      exact dg_takeField_81 w c N D bb v1 v2 s.2 s.1 q1 q2 g4 g3 m hm (jk [(3, s.1)]) Q2 H1 H2
    · skip
      refine P_ld 77 (.int (i32 s.2)) rfl (fun _ => rfl) ?_
      refine P_goto 81 rfl (fun _ => rfl) ?_
      exact dg_takeField_81 w c N D bb v1 v2 s.2 s.2 q1 q2 g4 g4 m hm (jk [(3, s.1)]) Q2 H1 H2
def rf_takeField (v1 : Int) (m : mR) : Option (Int × mR) :=
  if m.1 10 ≤ 0 then
    if m.1 7 = 1 then
      bnd (whl (rfb_takeField_38 v1 ((m.2 34) v1) m) ((-1), cut (16 * ((m.2 34) v1)))) (fun e17 : Int =>
        rfl_takeField_88 v1 ((m.2 34) v1) e17 m)
    else
      bnd (rf_bad m) fun y20 =>
      some (0, y20.2)
  else
    some (0, m)
theorem D_takeField (w : wX) (m : mR) (c : Nat → Option am_C) (N D : Nat) (hm : Cn m) (v1 : Int) (q1 : R32 v1) : PC w D 253 [.ref 189, .int (i32 v1)] (mhp m c, N) (QS (FR1 c N) (rf_takeField v1 m)) := by
  refine Pc_of (fun D bb => ?_) D
  unfold rf_takeField
  show PP bb w D pm_253 (0, [(0, .ref 189), (1, .int (i32 v1))], [], (mhp (mO m [] []) c, N), 0, 0) _
  refine P_gf 4 (.int (i32 (m.1 10))) rfl rfl rfl rfl rfl rfl ?_
  refine P_ifF 9 7 rfl rfl rfl (Cn_i hm 10 rfl) rfl (fun h15 => ?_) (fun h15 => ?_)
  · skip
    refine P_gf 13 (.ref 204) rfl rfl rfl rfl rfl rfl ?_
    refine P_ld 14 (.int (i32 v1)) rfl (fun _ => rfl) ?_
    refine P_iald2 15 34 (m.2 34) rfl rfl rfl q1 rfl ?_
    refine P_sto 16 [(2, .int (i32 ((m.2 34) v1))), (0, .ref 189), (1, .int (i32 v1))] rfl (fun _ => rfl) ?_
    refine P_ld 17 (.int (i32 (-1))) rfl (fun _ => rfl) ?_
    refine P_sto 18 [(3, .int (i32 (-1))), (2, .int (i32 ((m.2 34) v1))), (0, .ref 189), (1, .int (i32 v1))] rfl (fun _ => rfl) ?_
    refine P_gf 22 (.int (i32 (m.1 7))) rfl rfl rfl rfl rfl rfl ?_
    refine P_ld 23 (.int (i32 1)) rfl (fun _ => rfl) ?_
    refine P_icF 32 26 rfl rfl rfl (Cn_i hm 7 rfl) (l32 1 rfl) rfl (fun h16 => ?_) (fun h16 => ?_)
    · skip
      refine P_ld 34 (.int (i32 16)) rfl (fun _ => rfl) ?_
      refine P_ld 35 (.int (i32 ((m.2 34) v1))) rfl (fun _ => rfl) ?_
      refine P_op 36 (cut (16 * ((m.2 34) v1))) _ rfl (fun _ => rfl) o_mul ?_
      refine P_sto 38 [(4, .int (i32 (cut (16 * ((m.2 34) v1))))), (3, .int (i32 (-1))), (2, .int (i32 ((m.2 34) v1))), (0, .ref 189), (1, .int (i32 v1))] rfl (fun _ => rfl) ?_
      refine P_lv (b := [(0, .ref 189), (1, .int (i32 v1)), (2, .int (i32 ((m.2 34) v1))), (3, .int (i32 (-1))), (4, .int (i32 (cut (16 * ((m.2 34) v1)))))]) rfl rfl ⟨rfl, rfl, rfl, rfl, rfl, trivial⟩ ?_
      refine P_bnd ?_
      refine P_whl (fun bb Q2 H1 H2 s9 j9 hs9 => dh_takeField_38 w c N D v1 ((m.2 34) v1) q1 (rE_i (Cn_a hm 34) rfl _) m hm bb Q2 H1 H2 s9 j9 hs9) bb (fun e17 j q18 => ?_) ((-1), cut (16 * ((m.2 34) v1))) (jk []) ⟨(l32 (-1) rfl), cut_r⟩
      have q19 := q18
      show PP bb w D pm_253 (88, [(0, .ref 189), (1, .int (i32 v1)), (2, .int (i32 ((m.2 34) v1))), (3, .int (i32 e17)), (4, .int (i32 (j 4)))], [], (mhp (mO m [] []) c, N), 0, 0) (QS _ (rfl_takeField_88 v1 ((m.2 34) v1) e17 m))
      exact dg_takeField_88 w c N D bb v1 ((m.2 34) v1) e17 q1 (rE_i (Cn_a hm 34) rfl _) q19 m hm (jk [(4, j 4)])
    · skip
      refine P_ld 27 (.ref 189) rfl (fun _ => rfl) ?_
      refine P_ca0 30 226 [.ref 189] [] rfl (fun _ => rfl) rfl (D_bad w m c N D hm) (fun y20 n22 => ?_)
      refine P_ld 31 (.int (i32 0)) rfl (fun _ => rfl) ?_
      exact P_re1 rfl (l32 0 rfl) n22
  · skip
    refine P_ld 8 (.int (i32 0)) rfl (fun _ => rfl) ?_
    exact P_re1 rfl (l32 0 rfl) hm
def rf_bitsOfField (v1 : Int) (m : mR) : Option Int :=
  some ((m.2 33) (cut ((cut (16 * ((m.2 34) (v1.tdiv 16)))) + (v1.tmod 16))))
theorem D_bitsOfField (w : wX) (m : mR) (c : Nat → Option am_C) (N D : Nat) (hm : Cn m) (v1 : Int) (q1 : R32 v1) : PC w D 254 [.ref 189, .int (i32 v1)] (mhp m c, N) (QS (FP1 (mhp m c, N)) (rf_bitsOfField v1 m)) := by
  refine Pc_of (fun D bb => ?_) D
  unfold rf_bitsOfField
  show PP bb w D pm_254 (0, [(0, .ref 189), (1, .int (i32 v1))], [], (mhp (mO m [] []) c, N), 0, 0) _
  refine P_gf 4 (.ref 203) rfl rfl rfl rfl rfl rfl ?_
  refine P_ld 6 (.int (i32 16)) rfl (fun _ => rfl) ?_
  refine P_gf 10 (.ref 204) rfl rfl rfl rfl rfl rfl ?_
  refine P_ld 11 (.int (i32 v1)) rfl (fun _ => rfl) ?_
  refine P_ld 13 (.int (i32 16)) rfl (fun _ => rfl) ?_
  refine P_div 14 rfl rfl q1 (by decide) (by decide) ?_
  refine P_iald2 15 34 (m.2 34) rfl rfl rfl (tdiv_r q1 (by decide)) rfl ?_
  refine P_op 16 (cut (16 * ((m.2 34) (v1.tdiv 16)))) _ rfl (fun _ => rfl) o_mul ?_
  refine P_ld 17 (.int (i32 v1)) rfl (fun _ => rfl) ?_
  refine P_ld 19 (.int (i32 16)) rfl (fun _ => rfl) ?_
  refine P_rem 20 rfl rfl q1 (by decide) (by decide) ?_
  refine P_op 21 (cut ((cut (16 * ((m.2 34) (v1.tdiv 16)))) + (v1.tmod 16))) _ rfl (fun _ => rfl) o_add ?_
  refine P_iald2 22 33 (m.2 33) rfl rfl rfl cut_r rfl ?_
  exact P_rp1 rfl (rE_i (Cn_a hm 33) rfl _)
end X26D
