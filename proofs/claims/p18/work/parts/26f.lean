noncomputable section X26F
def rfl_common_63 (v1 : Int) (v10 : Int) (u1 : Int) (m : mR) : Option (Int × mR) :=
  bnd (rf_want u1 v10 m) fun y1 =>
  some (v1, y1.2)
theorem dg_common_63 (w : wX) (c : Nat → Option am_C) (N D : Nat) (bb : Nat) (v1 : Int) (v10 : Int) (u1 : Int) (q1 : R32 v1) (q10 : R32 v10) (r1 : R32 u1) (m : mR) (hm : Cn m) (j : Nat → Int) : PP bb w D pm_261 (63, [(0, .ref 189), (1, .int (i32 v1)), (2, .int (i32 (j 2))), (3, .long (i64 (j 3))), (5, .int (i32 (j 5))), (6, .int (i32 (j 6))), (7, .int (i32 (j 7))), (8, .long (i64 (j 8))), (10, .int (i32 v10))], [.int (i32 u1), .ref 189], (mhp m c, N), 0, 0) (QS (FR1 c N) (rfl_common_63 v1 v10 u1 m)) := by
  unfold rfl_common_63
  show PP bb w D pm_261 (63, [(0, .ref 189), (1, .int (i32 v1)), (2, .int (i32 (j 2))), (3, .long (i64 (j 3))), (5, .int (i32 (j 5))), (6, .int (i32 (j 6))), (7, .int (i32 (j 7))), (8, .long (i64 (j 8))), (10, .int (i32 v10))], [.int (i32 u1), .ref 189], (mhp (mO m [] []) c, N), 0, 0) _
  refine P_ld 65 (.int (i32 v10)) rfl (fun _ => rfl) ?_
  refine P_ca0 68 256 [.ref 189, .int (i32 u1), .int (i32 v10)] [] rfl (fun _ => rfl) rfl (D_want w m c N D hm u1 v10 r1 q10) (fun y1 n3 => ?_)
  refine P_ld 69 (.int (i32 v1)) rfl (fun _ => rfl) ?_
  exact P_re1 rfl q1 n3
def rfl_common_12 (v1 : Int) (v2 : Int) (v3 : Int) (v5 : Int) (v6 : Int) (v7 : Int) (v8 : Int) (v10 : Int) (m : mR) : Option (Int × mR) :=
  if v2 = 0 then
    if v7 = 0 then
      if v1 = v6 then
        rfl_common_63 v1 v10 1 m
      else
        rfl_common_63 v1 v10 0 m
    else
      bnd (rf_fits v8 v1) fun y7 =>
      bnd (rf_want y7 v10 m) fun y9 =>
      some (v1, y9.2)
  else
    bnd (rf_fits v3 v6) fun y12 =>
    bnd (rf_want y12 v5 m) fun y14 =>
    some (v6, y14.2)
theorem dg_common_12 (w : wX) (c : Nat → Option am_C) (N D : Nat) (bb : Nat) (v1 : Int) (v2 : Int) (v3 : Int) (v5 : Int) (v6 : Int) (v7 : Int) (v8 : Int) (v10 : Int) (q1 : R32 v1) (q2 : R32 v2) (q3 : R64 v3) (q5 : R32 v5) (q6 : R32 v6) (q7 : R32 v7) (q8 : R64 v8) (q10 : R32 v10) (m : mR) (hm : Cn m) (j : Nat → Int) : PP bb w D pm_261 (12, [(0, .ref 189), (1, .int (i32 v1)), (2, .int (i32 v2)), (3, .long (i64 v3)), (5, .int (i32 v5)), (6, .int (i32 v6)), (7, .int (i32 v7)), (8, .long (i64 v8)), (10, .int (i32 v10))], [], (mhp m c, N), 0, 0) (QS (FR1 c N) (rfl_common_12 v1 v2 v3 v5 v6 v7 v8 v10 m)) := by
  unfold rfl_common_12
  show PP bb w D pm_261 (12, [(0, .ref 189), (1, .int (i32 v1)), (2, .int (i32 v2)), (3, .long (i64 v3)), (5, .int (i32 v5)), (6, .int (i32 v6)), (7, .int (i32 v7)), (8, .long (i64 v8)), (10, .int (i32 v10))], [], (mhp (mO m [] []) c, N), 0, 0) _
  refine P_ld 13 (.int (i32 v2)) rfl (fun _ => rfl) ?_
  refine P_ifF 31 16 rfl rfl rfl q2 rfl (fun h4 => ?_) (fun h4 => ?_)
  · skip
    refine P_ld 33 (.int (i32 v7)) rfl (fun _ => rfl) ?_
    refine P_ifF 51 36 rfl rfl rfl q7 rfl (fun h5 => ?_) (fun h5 => ?_)
    · skip
      refine P_ld 52 (.ref 189) rfl (fun _ => rfl) ?_
      refine P_ld 53 (.int (i32 v1)) rfl (fun _ => rfl) ?_
      refine P_ld 55 (.int (i32 v6)) rfl (fun _ => rfl) ?_
      refine P_icE 62 58 rfl rfl rfl q1 q6 rfl (fun h6 => ?_) (fun h6 => ?_)
      · skip
        refine P_ld 59 (.int (i32 1)) rfl (fun _ => rfl) ?_
        refine P_goto 63 rfl (fun _ => rfl) ?_
        exact dg_common_63 w c N D bb v1 v10 1 q1 q10 (l32 1 rfl) m hm (jk [(2, v2), (3, v3), (5, v5), (6, v6), (7, v7), (8, v8)])
      · skip
        refine P_ld 63 (.int (i32 0)) rfl (fun _ => rfl) ?_
        exact dg_common_63 w c N D bb v1 v10 0 q1 q10 (l32 0 rfl) m hm (jk [(2, v2), (3, v3), (5, v5), (6, v6), (7, v7), (8, v8)])
    · skip
      refine P_ld 37 (.ref 189) rfl (fun _ => rfl) ?_
      refine P_ld 39 (.long (i64 v8)) rfl (fun _ => rfl) ?_
      refine P_ld 40 (.int (i32 v1)) rfl (fun _ => rfl) ?_
      refine P_cp1 43 262 [.long (i64 v8), .int (i32 v1)] [.ref 189] rfl (fun _ => rfl) rfl (D_fits w _ D v8 v1 q8 q1) (fun y7 h8 => ?_)
      refine P_ld 45 (.int (i32 v10)) rfl (fun _ => rfl) ?_
      refine P_ca0 48 256 [.ref 189, .int (i32 y7), .int (i32 v10)] [] rfl (fun _ => rfl) rfl (D_want w m c N D hm y7 v10 h8 q10) (fun y9 n11 => ?_)
      refine P_goto 68 rfl (fun _ => rfl) ?_
      refine P_ld 69 (.int (i32 v1)) rfl (fun _ => rfl) ?_
      exact P_re1 rfl q1 n11
  · skip
    refine P_ld 17 (.ref 189) rfl (fun _ => rfl) ?_
    refine P_ld 18 (.long (i64 v3)) rfl (fun _ => rfl) ?_
    refine P_ld 20 (.int (i32 v6)) rfl (fun _ => rfl) ?_
    refine P_cp1 23 262 [.long (i64 v3), .int (i32 v6)] [.ref 189] rfl (fun _ => rfl) rfl (D_fits w _ D v3 v6 q3 q6) (fun y12 h13 => ?_)
    refine P_ld 25 (.int (i32 v5)) rfl (fun _ => rfl) ?_
    refine P_ca0 28 256 [.ref 189, .int (i32 y12), .int (i32 v5)] [] rfl (fun _ => rfl) rfl (D_want w m c N D hm y12 v5 h13 q5) (fun y14 n16 => ?_)
    refine P_ld 30 (.int (i32 v6)) rfl (fun _ => rfl) ?_
    exact P_re1 rfl q6 n16
def rf_common (v1 : Int) (v2 : Int) (v3 : Int) (v5 : Int) (v6 : Int) (v7 : Int) (v8 : Int) (v10 : Int) (m : mR) : Option (Int × mR) :=
  if v2 = 0 then
    rfl_common_12 v1 v2 v3 v5 v6 v7 v8 v10 m
  else
    if v7 = 0 then
      rfl_common_12 v1 v2 v3 v5 v6 v7 v8 v10 m
    else
      some (64, m)
theorem D_common (w : wX) (m : mR) (c : Nat → Option am_C) (N D : Nat) (hm : Cn m) (v1 : Int) (v2 : Int) (v3 : Int) (v5 : Int) (v6 : Int) (v7 : Int) (v8 : Int) (v10 : Int) (q1 : R32 v1) (q2 : R32 v2) (q3 : R64 v3) (q5 : R32 v5) (q6 : R32 v6) (q7 : R32 v7) (q8 : R64 v8) (q10 : R32 v10) : PC w D 261 [.ref 189, .int (i32 v1), .int (i32 v2), .long (i64 v3), .int (i32 v5), .int (i32 v6), .int (i32 v7), .long (i64 v8), .int (i32 v10)] (mhp m c, N) (QS (FR1 c N) (rf_common v1 v2 v3 v5 v6 v7 v8 v10 m)) := by
  refine Pc_of (fun D bb => ?_) D
  unfold rf_common
  show PP bb w D pm_261 (0, [(0, .ref 189), (1, .int (i32 v1)), (2, .int (i32 v2)), (3, .long (i64 v3)), (5, .int (i32 v5)), (6, .int (i32 v6)), (7, .int (i32 v7)), (8, .long (i64 v8)), (10, .int (i32 v10))], [], (mhp (mO m [] []) c, N), 0, 0) _
  refine P_ld 1 (.int (i32 v2)) rfl (fun _ => rfl) ?_
  refine P_ifF 12 4 rfl rfl rfl q2 rfl (fun h17 => ?_) (fun h17 => ?_)
  · skip
    exact dg_common_12 w c N D bb v1 v2 v3 v5 v6 v7 v8 v10 q1 q2 q3 q5 q6 q7 q8 q10 m hm (jk [])
  · skip
    refine P_ld 6 (.int (i32 v7)) rfl (fun _ => rfl) ?_
    refine P_ifF 12 9 rfl rfl rfl q7 rfl (fun h18 => ?_) (fun h18 => ?_)
    · skip
      exact dg_common_12 w c N D bb v1 v2 v3 v5 v6 v7 v8 v10 q1 q2 q3 q5 q6 q7 q8 q10 m hm (jk [])
    · skip
      refine P_ld 11 (.int (i32 64)) rfl (fun _ => rfl) ?_
      exact P_re1 rfl (l32 64 rfl) hm
def rfl_join_278 (v2 : Int) (v3 : Int) (m : mR) : Option (Int × mR) :=
  bnd (rf_unit v2 v3 m) fun y1 =>
  some (0, y1.2)
theorem dg_join_278 (w : wX) (c : Nat → Option am_C) (N D : Nat) (bb : Nat) (v2 : Int) (v3 : Int) (q2 : R32 v2) (q3 : R32 v3) (m : mR) (hm : Cn m) (j : Nat → Int) : PP bb w D pm_260 (278, [(0, .ref 189), (1, .int (i32 (j 1))), (2, .int (i32 v2)), (3, .int (i32 v3)), (4, .int (i32 (j 4))), (5, .int (i32 (j 5)))], [], (mhp m c, N), 0, 0) (QS (FR0 c N) (rfl_join_278 v2 v3 m)) := by
  unfold rfl_join_278
  show PP bb w D pm_260 (278, [(0, .ref 189), (1, .int (i32 (j 1))), (2, .int (i32 v2)), (3, .int (i32 v3)), (4, .int (i32 (j 4))), (5, .int (i32 (j 5)))], [], (mhp (mO m [] []) c, N), 0, 0) _
  refine P_ld 279 (.ref 189) rfl (fun _ => rfl) ?_
  refine P_ld 280 (.int (i32 v2)) rfl (fun _ => rfl) ?_
  refine P_ld 281 (.int (i32 v3)) rfl (fun _ => rfl) ?_
  refine P_ca0 284 250 [.ref 189, .int (i32 v2), .int (i32 v3)] [] rfl (fun _ => rfl) rfl (D_unit w m c N D hm v2 v3 q2 q3) (fun y1 n3 => ?_)
  exact P_re0 rfl rfl n3
def rfl_join_261 (v1 : Int) (v2 : Int) (v3 : Int) (v4 : Int) (v5 : Int) (m : mR) : Option (Int × mR) :=
  bnd (rf_node v4 v2 v5 0 (mO m [] [(80, upI (m.2 80) v1 (-1))])) fun y4 =>
  rfl_join_278 v2 v3 y4.2
theorem dg_join_261 (w : wX) (c : Nat → Option am_C) (N D : Nat) (bb : Nat) (v1 : Int) (v2 : Int) (v3 : Int) (v4 : Int) (v5 : Int) (q1 : R32 v1) (q2 : R32 v2) (q3 : R32 v3) (q4 : R32 v4) (q5 : R32 v5) (m : mR) (hm : Cn m) (j : Nat → Int) : PP bb w D pm_260 (261, [(0, .ref 189), (1, .int (i32 v1)), (2, .int (i32 v2)), (3, .int (i32 v3)), (4, .int (i32 v4)), (5, .int (i32 v5))], [], (mhp m c, N), 0, 0) (QS (FR0 c N) (rfl_join_261 v1 v2 v3 v4 v5 m)) := by
  unfold rfl_join_261
  show PP bb w D pm_260 (261, [(0, .ref 189), (1, .int (i32 v1)), (2, .int (i32 v2)), (3, .int (i32 v3)), (4, .int (i32 v4)), (5, .int (i32 v5))], [], (mhp (mO m [] []) c, N), 0, 0) _
  refine P_gf 265 (.ref 242) rfl rfl rfl rfl rfl rfl ?_
  refine P_ld 266 (.int (i32 v1)) rfl (fun _ => rfl) ?_
  refine P_ld 267 (.int (i32 (-1))) rfl (fun _ => rfl) ?_
  refine P_iast2 (a' := [(80, upI (m.2 80) v1 (-1))]) 268 80 (m.2 80) rfl rfl rfl q1 rfl rfl ?_
  refine P_ld 269 (.ref 189) rfl (fun _ => rfl) ?_
  refine P_ld 271 (.int (i32 v4)) rfl (fun _ => rfl) ?_
  refine P_ld 272 (.int (i32 v2)) rfl (fun _ => rfl) ?_
  refine P_ld 274 (.int (i32 v5)) rfl (fun _ => rfl) ?_
  refine P_ld 275 (.long (i64 0)) rfl (fun _ => rfl) ?_
  refine P_ca0 278 248 [.ref 189, .int (i32 v4), .int (i32 v2), .int (i32 v5), .long (i64 0)] [] rfl (fun _ => rfl) rfl (D_node w (mO m [] [(80, upI (m.2 80) v1 (-1))]) c N D (Cn_mO hm trivial ⟨(rE_ui (Cn_a hm 80) rfl (l32 (-1) rfl)), trivial⟩) v4 v2 v5 0 q4 q2 q5 (l64 0 rfl)) (fun y4 n6 => ?_)
  exact dg_join_278 w c N D bb v2 v3 q2 q3 y4.2 n6 (jk [(1, v1), (4, v4), (5, v5)])
def rfl_join_260 (v1 : Int) (v3 : Int) (v4 : Int) (v5 : Int) (u0 : Int) (m : mR) : Option (Int × mR) :=
  rfl_join_261 v1 u0 v3 v4 v5 m
theorem dg_join_260 (w : wX) (c : Nat → Option am_C) (N D : Nat) (bb : Nat) (v1 : Int) (v3 : Int) (v4 : Int) (v5 : Int) (u0 : Int) (q1 : R32 v1) (q3 : R32 v3) (q4 : R32 v4) (q5 : R32 v5) (r0 : R32 u0) (m : mR) (hm : Cn m) (j : Nat → Int) : PP bb w D pm_260 (260, [(0, .ref 189), (1, .int (i32 v1)), (2, .int (i32 (j 2))), (3, .int (i32 v3)), (4, .int (i32 v4)), (5, .int (i32 v5))], [.int (i32 u0)], (mhp m c, N), 0, 0) (QS (FR0 c N) (rfl_join_260 v1 v3 v4 v5 u0 m)) := by
  unfold rfl_join_260
  show PP bb w D pm_260 (260, [(0, .ref 189), (1, .int (i32 v1)), (2, .int (i32 (j 2))), (3, .int (i32 v3)), (4, .int (i32 v4)), (5, .int (i32 v5))], [.int (i32 u0)], (mhp (mO m [] []) c, N), 0, 0) _
  refine P_sto 261 [(2, .int (i32 u0)), (0, .ref 189), (1, .int (i32 v1)), (3, .int (i32 v3)), (4, .int (i32 v4)), (5, .int (i32 v5))] rfl (fun _ => rfl) ?_
  refine P_lv (b := [(0, .ref 189), (1, .int (i32 v1)), (2, .int (i32 u0)), (3, .int (i32 v3)), (4, .int (i32 v4)), (5, .int (i32 v5))]) rfl rfl ⟨rfl, rfl, rfl, rfl, rfl, rfl, trivial⟩ ?_
  exact dg_join_261 w c N D bb v1 u0 v3 v4 v5 q1 r0 q3 q4 q5 m hm (jk [])
def rfl_join_241 (v1 : Int) (v3 : Int) (v4 : Int) (v5 : Int) (u0 : Int) (m : mR) : Option (Int × mR) :=
  bnd (rf_level ((m.2 80) v1)) fun y7 =>
  if y7 = 2 then
    rfl_join_260 v1 v3 v4 v5 1 m
  else
    rfl_join_260 v1 v3 v4 v5 u0 m
theorem dg_join_241 (w : wX) (c : Nat → Option am_C) (N D : Nat) (bb : Nat) (v1 : Int) (v3 : Int) (v4 : Int) (v5 : Int) (u0 : Int) (q1 : R32 v1) (q3 : R32 v3) (q4 : R32 v4) (q5 : R32 v5) (r0 : R32 u0) (m : mR) (hm : Cn m) (j : Nat → Int) : PP bb w D pm_260 (241, [(0, .ref 189), (1, .int (i32 v1)), (2, .int (i32 (j 2))), (3, .int (i32 v3)), (4, .int (i32 v4)), (5, .int (i32 v5))], [.int (i32 u0)], (mhp m c, N), 0, 0) (QS (FR0 c N) (rfl_join_241 v1 v3 v4 v5 u0 m)) := by
  unfold rfl_join_241
  show PP bb w D pm_260 (241, [(0, .ref 189), (1, .int (i32 v1)), (2, .int (i32 (j 2))), (3, .int (i32 v3)), (4, .int (i32 v4)), (5, .int (i32 v5))], [.int (i32 u0)], (mhp (mO m [] []) c, N), 0, 0) _
  refine P_sto 242 [(2, .int (i32 u0)), (0, .ref 189), (1, .int (i32 v1)), (3, .int (i32 v3)), (4, .int (i32 v4)), (5, .int (i32 v5))] rfl (fun _ => rfl) ?_
  refine P_gf 246 (.ref 242) rfl rfl rfl rfl rfl rfl ?_
  refine P_ld 247 (.int (i32 v1)) rfl (fun _ => rfl) ?_
  refine P_iald2 248 80 (m.2 80) rfl rfl rfl q1 rfl ?_
  refine P_cp1 251 259 [.int (i32 ((m.2 80) v1))] [] rfl (fun _ => rfl) rfl (D_level w _ D ((m.2 80) v1) (rE_i (Cn_a hm 80) rfl _)) (fun y7 h8 => ?_)
  refine P_ld 252 (.int (i32 2)) rfl (fun _ => rfl) ?_
  refine P_icE 259 255 rfl rfl rfl h8 (l32 2 rfl) rfl (fun h9 => ?_) (fun h9 => ?_)
  · skip
    refine P_ld 256 (.int (i32 1)) rfl (fun _ => rfl) ?_
    refine P_goto 260 rfl (fun _ => rfl) ?_
    refine P_lv (b := [(0, .ref 189), (1, .int (i32 v1)), (2, .int (i32 u0)), (3, .int (i32 v3)), (4, .int (i32 v4)), (5, .int (i32 v5))]) rfl rfl ⟨rfl, rfl, rfl, rfl, rfl, rfl, trivial⟩ ?_
    exact dg_join_260 w c N D bb v1 v3 v4 v5 1 q1 q3 q4 q5 (l32 1 rfl) m hm (jk [(2, u0)])
  · skip
    refine P_ld 260 (.int (i32 u0)) rfl (fun _ => rfl) ?_
    refine P_lv (b := [(0, .ref 189), (1, .int (i32 v1)), (2, .int (i32 u0)), (3, .int (i32 v3)), (4, .int (i32 v4)), (5, .int (i32 v5))]) rfl rfl ⟨rfl, rfl, rfl, rfl, rfl, rfl, trivial⟩ ?_
    exact dg_join_260 w c N D bb v1 v3 v4 v5 u0 q1 q3 q4 q5 r0 m hm (jk [(2, u0)])
def rfl_join_207 (v1 : Int) (v2 : Int) (v3 : Int) (v4 : Int) (v5 : Int) (m : mR) : Option (Int × mR) :=
  bnd (rf_common v2 ((m.2 83) v1) ((m.2 84) v1) v3 (m.1 69) (m.1 71) (m.1 72) (m.1 70) m) fun y10 =>
  rfl_join_241 v1 v3 v4 v5 y10.1 y10.2
theorem dg_join_207 (w : wX) (c : Nat → Option am_C) (N D : Nat) (bb : Nat) (v1 : Int) (v2 : Int) (v3 : Int) (v4 : Int) (v5 : Int) (q1 : R32 v1) (q2 : R32 v2) (q3 : R32 v3) (q4 : R32 v4) (q5 : R32 v5) (m : mR) (hm : Cn m) (j : Nat → Int) : PP bb w D pm_260 (207, [(0, .ref 189), (1, .int (i32 v1)), (2, .int (i32 v2)), (3, .int (i32 v3)), (4, .int (i32 v4)), (5, .int (i32 v5))], [], (mhp m c, N), 0, 0) (QS (FR0 c N) (rfl_join_207 v1 v2 v3 v4 v5 m)) := by
  unfold rfl_join_207
  show PP bb w D pm_260 (207, [(0, .ref 189), (1, .int (i32 v1)), (2, .int (i32 v2)), (3, .int (i32 v3)), (4, .int (i32 v4)), (5, .int (i32 v5))], [], (mhp (mO m [] []) c, N), 0, 0) _
  refine P_ld 208 (.ref 189) rfl (fun _ => rfl) ?_
  refine P_ld 209 (.int (i32 v2)) rfl (fun _ => rfl) ?_
  refine P_gf 213 (.ref 245) rfl rfl rfl rfl rfl rfl ?_
  refine P_ld 214 (.int (i32 v1)) rfl (fun _ => rfl) ?_
  refine P_bald2 215 83 (m.2 83) rfl rfl rfl q1 rfl ?_
  refine P_gf 219 (.ref 246) rfl rfl rfl rfl rfl rfl ?_
  refine P_ld 220 (.int (i32 v1)) rfl (fun _ => rfl) ?_
  refine P_lald2 221 84 (m.2 84) rfl rfl rfl q1 rfl ?_
  refine P_ld 222 (.int (i32 v3)) rfl (fun _ => rfl) ?_
  refine P_gf 226 (.int (i32 (m.1 69))) rfl rfl rfl rfl rfl rfl ?_
  refine P_gf 230 (.int (i32 (m.1 71))) rfl rfl rfl rfl rfl rfl ?_
  refine P_gf 234 (.long (i64 (m.1 72))) rfl rfl rfl rfl rfl rfl ?_
  refine P_gf 238 (.int (i32 (m.1 70))) rfl rfl rfl rfl rfl rfl ?_
  refine P_ca1 241 261 [.ref 189, .int (i32 v2), .int (i32 ((m.2 83) v1)), .long (i64 ((m.2 84) v1)), .int (i32 v3), .int (i32 (m.1 69)), .int (i32 (m.1 71)), .long (i64 (m.1 72)), .int (i32 (m.1 70))] [] rfl (fun _ => rfl) rfl (D_common w m c N D hm v2 ((m.2 83) v1) ((m.2 84) v1) v3 (m.1 69) (m.1 71) (m.1 72) (m.1 70) q2 (rE_i (Cn_a hm 83) rfl _) (rE_l (Cn_a hm 84) rfl _) q3 (Cn_i hm 69 rfl) (Cn_i hm 71 rfl) (Cn_l hm 72 rfl) (Cn_i hm 70 rfl)) (fun y10 h11 n12 => ?_)
  exact dg_join_241 w c N D bb v1 v3 v4 v5 y10.1 q1 q3 q4 q5 h11 y10.2 n12 (jk [(2, v2)])
def rfl_join_197 (v1 : Int) (v2 : Int) (v3 : Int) (v4 : Int) (v5 : Int) (m : mR) : Option (Int × mR) :=
  rfl_join_261 v1 (cut (v2 + (m.1 69))) v3 v4 v5 m
theorem dg_join_197 (w : wX) (c : Nat → Option am_C) (N D : Nat) (bb : Nat) (v1 : Int) (v2 : Int) (v3 : Int) (v4 : Int) (v5 : Int) (q1 : R32 v1) (q2 : R32 v2) (q3 : R32 v3) (q4 : R32 v4) (q5 : R32 v5) (m : mR) (hm : Cn m) (j : Nat → Int) : PP bb w D pm_260 (197, [(0, .ref 189), (1, .int (i32 v1)), (2, .int (i32 v2)), (3, .int (i32 v3)), (4, .int (i32 v4)), (5, .int (i32 v5))], [], (mhp m c, N), 0, 0) (QS (FR0 c N) (rfl_join_197 v1 v2 v3 v4 v5 m)) := by
  unfold rfl_join_197
  show PP bb w D pm_260 (197, [(0, .ref 189), (1, .int (i32 v1)), (2, .int (i32 v2)), (3, .int (i32 v3)), (4, .int (i32 v4)), (5, .int (i32 v5))], [], (mhp (mO m [] []) c, N), 0, 0) _
  refine P_ld 198 (.int (i32 v2)) rfl (fun _ => rfl) ?_
  refine P_gf 202 (.int (i32 (m.1 69))) rfl rfl rfl rfl rfl rfl ?_
  refine P_op 203 (cut (v2 + (m.1 69))) _ rfl (fun _ => rfl) o_add ?_
  refine P_sto 204 [(2, .int (i32 (cut (v2 + (m.1 69))))), (0, .ref 189), (1, .int (i32 v1)), (3, .int (i32 v3)), (4, .int (i32 v4)), (5, .int (i32 v5))] rfl (fun _ => rfl) ?_
  refine P_goto 261 rfl (fun _ => rfl) ?_
  refine P_lv (b := [(0, .ref 189), (1, .int (i32 v1)), (2, .int (i32 (cut (v2 + (m.1 69))))), (3, .int (i32 v3)), (4, .int (i32 v4)), (5, .int (i32 v5))]) rfl rfl ⟨rfl, rfl, rfl, rfl, rfl, rfl, trivial⟩ ?_
  exact dg_join_261 w c N D bb v1 (cut (v2 + (m.1 69))) v3 v4 v5 q1 cut_r q3 q4 q5 m hm (jk [])
def rfl_join_190 (v1 : Int) (v2 : Int) (v3 : Int) (v4 : Int) (v5 : Int) (u1 : Int) (m : mR) : Option (Int × mR) :=
  bnd (rf_want u1 (m.1 70) m) fun y13 =>
  rfl_join_197 v1 v2 v3 v4 v5 y13.2
theorem dg_join_190 (w : wX) (c : Nat → Option am_C) (N D : Nat) (bb : Nat) (v1 : Int) (v2 : Int) (v3 : Int) (v4 : Int) (v5 : Int) (u1 : Int) (q1 : R32 v1) (q2 : R32 v2) (q3 : R32 v3) (q4 : R32 v4) (q5 : R32 v5) (r1 : R32 u1) (m : mR) (hm : Cn m) (j : Nat → Int) : PP bb w D pm_260 (190, [(0, .ref 189), (1, .int (i32 v1)), (2, .int (i32 v2)), (3, .int (i32 v3)), (4, .int (i32 v4)), (5, .int (i32 v5))], [.int (i32 u1), .ref 189], (mhp m c, N), 0, 0) (QS (FR0 c N) (rfl_join_190 v1 v2 v3 v4 v5 u1 m)) := by
  unfold rfl_join_190
  show PP bb w D pm_260 (190, [(0, .ref 189), (1, .int (i32 v1)), (2, .int (i32 v2)), (3, .int (i32 v3)), (4, .int (i32 v4)), (5, .int (i32 v5))], [.int (i32 u1), .ref 189], (mhp (mO m [] []) c, N), 0, 0) _
  refine P_gf 194 (.int (i32 (m.1 70))) rfl rfl rfl rfl rfl rfl ?_
  refine P_ca0 197 256 [.ref 189, .int (i32 u1), .int (i32 (m.1 70))] [] rfl (fun _ => rfl) rfl (D_want w m c N D hm u1 (m.1 70) r1 (Cn_i hm 70 rfl)) (fun y13 n15 => ?_)
  exact dg_join_197 w c N D bb v1 v2 v3 v4 v5 q1 q2 q3 q4 q5 y13.2 n15 (jk [])
def rfl_join_173 (v1 : Int) (v2 : Int) (v3 : Int) (v4 : Int) (v5 : Int) (m : mR) : Option (Int × mR) :=
  if (64 : Int) < cut (v2 + (m.1 69)) then
    rfl_join_190 v1 v2 v3 v4 v5 0 m
  else
    rfl_join_190 v1 v2 v3 v4 v5 1 m
theorem dg_join_173 (w : wX) (c : Nat → Option am_C) (N D : Nat) (bb : Nat) (v1 : Int) (v2 : Int) (v3 : Int) (v4 : Int) (v5 : Int) (q1 : R32 v1) (q2 : R32 v2) (q3 : R32 v3) (q4 : R32 v4) (q5 : R32 v5) (m : mR) (hm : Cn m) (j : Nat → Int) : PP bb w D pm_260 (173, [(0, .ref 189), (1, .int (i32 v1)), (2, .int (i32 v2)), (3, .int (i32 v3)), (4, .int (i32 v4)), (5, .int (i32 v5))], [], (mhp m c, N), 0, 0) (QS (FR0 c N) (rfl_join_173 v1 v2 v3 v4 v5 m)) := by
  unfold rfl_join_173
  show PP bb w D pm_260 (173, [(0, .ref 189), (1, .int (i32 v1)), (2, .int (i32 v2)), (3, .int (i32 v3)), (4, .int (i32 v4)), (5, .int (i32 v5))], [], (mhp (mO m [] []) c, N), 0, 0) _
  refine P_ld 174 (.ref 189) rfl (fun _ => rfl) ?_
  refine P_ld 175 (.int (i32 v2)) rfl (fun _ => rfl) ?_
  refine P_gf 179 (.int (i32 (m.1 69))) rfl rfl rfl rfl rfl rfl ?_
  refine P_op 180 (cut (v2 + (m.1 69))) _ rfl (fun _ => rfl) o_add ?_
  refine P_ld 182 (.int (i32 64)) rfl (fun _ => rfl) ?_
  refine P_icF 189 185 rfl rfl rfl cut_r (l32 64 rfl) rfl (fun h16 => ?_) (fun h16 => ?_)
  · skip
    refine P_ld 190 (.int (i32 0)) rfl (fun _ => rfl) ?_
    exact dg_join_190 w c N D bb v1 v2 v3 v4 v5 0 q1 q2 q3 q4 q5 (l32 0 rfl) m hm (jk [])
  · skip
    refine P_ld 186 (.int (i32 1)) rfl (fun _ => rfl) ?_
    refine P_goto 190 rfl (fun _ => rfl) ?_
    exact dg_join_190 w c N D bb v1 v2 v3 v4 v5 1 q1 q2 q3 q4 q5 (l32 1 rfl) m hm (jk [])
def rfl_join_166 (v1 : Int) (v2 : Int) (v3 : Int) (v4 : Int) (v5 : Int) (u1 : Int) (m : mR) : Option (Int × mR) :=
  bnd (rf_want u1 (m.1 70) m) fun y17 =>
  rfl_join_173 v1 v2 v3 v4 v5 y17.2
theorem dg_join_166 (w : wX) (c : Nat → Option am_C) (N D : Nat) (bb : Nat) (v1 : Int) (v2 : Int) (v3 : Int) (v4 : Int) (v5 : Int) (u1 : Int) (q1 : R32 v1) (q2 : R32 v2) (q3 : R32 v3) (q4 : R32 v4) (q5 : R32 v5) (r1 : R32 u1) (m : mR) (hm : Cn m) (j : Nat → Int) : PP bb w D pm_260 (166, [(0, .ref 189), (1, .int (i32 v1)), (2, .int (i32 v2)), (3, .int (i32 v3)), (4, .int (i32 v4)), (5, .int (i32 v5))], [.int (i32 u1), .ref 189], (mhp m c, N), 0, 0) (QS (FR0 c N) (rfl_join_166 v1 v2 v3 v4 v5 u1 m)) := by
  unfold rfl_join_166
  show PP bb w D pm_260 (166, [(0, .ref 189), (1, .int (i32 v1)), (2, .int (i32 v2)), (3, .int (i32 v3)), (4, .int (i32 v4)), (5, .int (i32 v5))], [.int (i32 u1), .ref 189], (mhp (mO m [] []) c, N), 0, 0) _
  refine P_gf 170 (.int (i32 (m.1 70))) rfl rfl rfl rfl rfl rfl ?_
  refine P_ca0 173 256 [.ref 189, .int (i32 u1), .int (i32 (m.1 70))] [] rfl (fun _ => rfl) rfl (D_want w m c N D hm u1 (m.1 70) r1 (Cn_i hm 70 rfl)) (fun y17 n19 => ?_)
  exact dg_join_173 w c N D bb v1 v2 v3 v4 v5 q1 q2 q3 q4 q5 y17.2 n19 (jk [])
def rfl_join_153 (v1 : Int) (v2 : Int) (v3 : Int) (v4 : Int) (v5 : Int) (m : mR) : Option (Int × mR) :=
  if m.1 71 = 0 then
    rfl_join_166 v1 v2 v3 v4 v5 1 m
  else
    rfl_join_166 v1 v2 v3 v4 v5 0 m
theorem dg_join_153 (w : wX) (c : Nat → Option am_C) (N D : Nat) (bb : Nat) (v1 : Int) (v2 : Int) (v3 : Int) (v4 : Int) (v5 : Int) (q1 : R32 v1) (q2 : R32 v2) (q3 : R32 v3) (q4 : R32 v4) (q5 : R32 v5) (m : mR) (hm : Cn m) (j : Nat → Int) : PP bb w D pm_260 (153, [(0, .ref 189), (1, .int (i32 v1)), (2, .int (i32 v2)), (3, .int (i32 v3)), (4, .int (i32 v4)), (5, .int (i32 v5))], [], (mhp m c, N), 0, 0) (QS (FR0 c N) (rfl_join_153 v1 v2 v3 v4 v5 m)) := by
  unfold rfl_join_153
  show PP bb w D pm_260 (153, [(0, .ref 189), (1, .int (i32 v1)), (2, .int (i32 v2)), (3, .int (i32 v3)), (4, .int (i32 v4)), (5, .int (i32 v5))], [], (mhp (mO m [] []) c, N), 0, 0) _
  refine P_ld 154 (.ref 189) rfl (fun _ => rfl) ?_
  refine P_gf 158 (.int (i32 (m.1 71))) rfl rfl rfl rfl rfl rfl ?_
  refine P_ifE 165 161 rfl rfl rfl (Cn_i hm 71 rfl) rfl (fun h20 => ?_) (fun h20 => ?_)
  · skip
    refine P_ld 162 (.int (i32 1)) rfl (fun _ => rfl) ?_
    refine P_goto 166 rfl (fun _ => rfl) ?_
    exact dg_join_166 w c N D bb v1 v2 v3 v4 v5 1 q1 q2 q3 q4 q5 (l32 1 rfl) m hm (jk [])
  · skip
    refine P_ld 166 (.int (i32 0)) rfl (fun _ => rfl) ?_
    exact dg_join_166 w c N D bb v1 v2 v3 v4 v5 0 q1 q2 q3 q4 q5 (l32 0 rfl) m hm (jk [])
def rfl_join_149 (v1 : Int) (v2 : Int) (v3 : Int) (v4 : Int) (v5 : Int) (u1 : Int) (m : mR) : Option (Int × mR) :=
  bnd (rf_want u1 v3 m) fun y21 =>
  rfl_join_153 v1 v2 v3 v4 v5 y21.2
theorem dg_join_149 (w : wX) (c : Nat → Option am_C) (N D : Nat) (bb : Nat) (v1 : Int) (v2 : Int) (v3 : Int) (v4 : Int) (v5 : Int) (u1 : Int) (q1 : R32 v1) (q2 : R32 v2) (q3 : R32 v3) (q4 : R32 v4) (q5 : R32 v5) (r1 : R32 u1) (m : mR) (hm : Cn m) (j : Nat → Int) : PP bb w D pm_260 (149, [(0, .ref 189), (1, .int (i32 v1)), (2, .int (i32 v2)), (3, .int (i32 v3)), (4, .int (i32 v4)), (5, .int (i32 v5))], [.int (i32 u1), .ref 189], (mhp m c, N), 0, 0) (QS (FR0 c N) (rfl_join_149 v1 v2 v3 v4 v5 u1 m)) := by
  unfold rfl_join_149
  show PP bb w D pm_260 (149, [(0, .ref 189), (1, .int (i32 v1)), (2, .int (i32 v2)), (3, .int (i32 v3)), (4, .int (i32 v4)), (5, .int (i32 v5))], [.int (i32 u1), .ref 189], (mhp (mO m [] []) c, N), 0, 0) _
  refine P_ld 150 (.int (i32 v3)) rfl (fun _ => rfl) ?_
  refine P_ca0 153 256 [.ref 189, .int (i32 u1), .int (i32 v3)] [] rfl (fun _ => rfl) rfl (D_want w m c N D hm u1 v3 r1 q3) (fun y21 n23 => ?_)
  exact dg_join_153 w c N D bb v1 v2 v3 v4 v5 q1 q2 q3 q4 q5 y21.2 n23 (jk [])
def rfl_join_126 (v1 : Int) (v3 : Int) (v4 : Int) (v5 : Int) (m : mR) : Option (Int × mR) :=
  rfl_join_261 v1 1 v3 v4 v5 m
theorem dg_join_126 (w : wX) (c : Nat → Option am_C) (N D : Nat) (bb : Nat) (v1 : Int) (v3 : Int) (v4 : Int) (v5 : Int) (q1 : R32 v1) (q3 : R32 v3) (q4 : R32 v4) (q5 : R32 v5) (m : mR) (hm : Cn m) (j : Nat → Int) : PP bb w D pm_260 (126, [(0, .ref 189), (1, .int (i32 v1)), (2, .int (i32 (j 2))), (3, .int (i32 v3)), (4, .int (i32 v4)), (5, .int (i32 v5))], [], (mhp m c, N), 0, 0) (QS (FR0 c N) (rfl_join_126 v1 v3 v4 v5 m)) := by
  unfold rfl_join_126
  show PP bb w D pm_260 (126, [(0, .ref 189), (1, .int (i32 v1)), (2, .int (i32 (j 2))), (3, .int (i32 v3)), (4, .int (i32 v4)), (5, .int (i32 v5))], [], (mhp (mO m [] []) c, N), 0, 0) _
  refine P_ld 127 (.int (i32 1)) rfl (fun _ => rfl) ?_
  refine P_sto 128 [(2, .int (i32 1)), (0, .ref 189), (1, .int (i32 v1)), (3, .int (i32 v3)), (4, .int (i32 v4)), (5, .int (i32 v5))] rfl (fun _ => rfl) ?_
  refine P_goto 261 rfl (fun _ => rfl) ?_
  refine P_lv (b := [(0, .ref 189), (1, .int (i32 v1)), (2, .int (i32 1)), (3, .int (i32 v3)), (4, .int (i32 v4)), (5, .int (i32 v5))]) rfl rfl ⟨rfl, rfl, rfl, rfl, rfl, rfl, trivial⟩ ?_
  exact dg_join_261 w c N D bb v1 1 v3 v4 v5 q1 (l32 1 rfl) q3 q4 q5 m hm (jk [])
def rfl_join_106 (v1 : Int) (v3 : Int) (v4 : Int) (v5 : Int) (m : mR) : Option (Int × mR) :=
  bnd (rf_wantBit (m.1 69) (m.1 71) (m.1 72) (m.1 70) m) fun y24 =>
  rfl_join_126 v1 v3 v4 v5 y24.2
theorem dg_join_106 (w : wX) (c : Nat → Option am_C) (N D : Nat) (bb : Nat) (v1 : Int) (v3 : Int) (v4 : Int) (v5 : Int) (q1 : R32 v1) (q3 : R32 v3) (q4 : R32 v4) (q5 : R32 v5) (m : mR) (hm : Cn m) (j : Nat → Int) : PP bb w D pm_260 (106, [(0, .ref 189), (1, .int (i32 v1)), (2, .int (i32 (j 2))), (3, .int (i32 v3)), (4, .int (i32 v4)), (5, .int (i32 v5))], [], (mhp m c, N), 0, 0) (QS (FR0 c N) (rfl_join_106 v1 v3 v4 v5 m)) := by
  unfold rfl_join_106
  show PP bb w D pm_260 (106, [(0, .ref 189), (1, .int (i32 v1)), (2, .int (i32 (j 2))), (3, .int (i32 v3)), (4, .int (i32 v4)), (5, .int (i32 v5))], [], (mhp (mO m [] []) c, N), 0, 0) _
  refine P_ld 107 (.ref 189) rfl (fun _ => rfl) ?_
  refine P_gf 111 (.int (i32 (m.1 69))) rfl rfl rfl rfl rfl rfl ?_
  refine P_gf 115 (.int (i32 (m.1 71))) rfl rfl rfl rfl rfl rfl ?_
  refine P_gf 119 (.long (i64 (m.1 72))) rfl rfl rfl rfl rfl rfl ?_
  refine P_gf 123 (.int (i32 (m.1 70))) rfl rfl rfl rfl rfl rfl ?_
  refine P_ca0 126 258 [.ref 189, .int (i32 (m.1 69)), .int (i32 (m.1 71)), .long (i64 (m.1 72)), .int (i32 (m.1 70))] [] rfl (fun _ => rfl) rfl (D_wantBit w m c N D hm (m.1 69) (m.1 71) (m.1 72) (m.1 70) (Cn_i hm 69 rfl) (Cn_i hm 71 rfl) (Cn_l hm 72 rfl) (Cn_i hm 70 rfl)) (fun y24 n26 => ?_)
  exact dg_join_126 w c N D bb v1 v3 v4 v5 q1 q3 q4 q5 y24.2 n26 (jk [(2, j 2)])
def rfl_join_88 (v1 : Int) (v2 : Int) (v3 : Int) (v4 : Int) (v5 : Int) (m : mR) : Option (Int × mR) :=
  bnd (rf_wantBit v2 ((m.2 83) v1) ((m.2 84) v1) v3 m) fun y27 =>
  rfl_join_106 v1 v3 v4 v5 y27.2
theorem dg_join_88 (w : wX) (c : Nat → Option am_C) (N D : Nat) (bb : Nat) (v1 : Int) (v2 : Int) (v3 : Int) (v4 : Int) (v5 : Int) (q1 : R32 v1) (q2 : R32 v2) (q3 : R32 v3) (q4 : R32 v4) (q5 : R32 v5) (m : mR) (hm : Cn m) (j : Nat → Int) : PP bb w D pm_260 (88, [(0, .ref 189), (1, .int (i32 v1)), (2, .int (i32 v2)), (3, .int (i32 v3)), (4, .int (i32 v4)), (5, .int (i32 v5))], [], (mhp m c, N), 0, 0) (QS (FR0 c N) (rfl_join_88 v1 v2 v3 v4 v5 m)) := by
  unfold rfl_join_88
  show PP bb w D pm_260 (88, [(0, .ref 189), (1, .int (i32 v1)), (2, .int (i32 v2)), (3, .int (i32 v3)), (4, .int (i32 v4)), (5, .int (i32 v5))], [], (mhp (mO m [] []) c, N), 0, 0) _
  refine P_ld 89 (.ref 189) rfl (fun _ => rfl) ?_
  refine P_ld 90 (.int (i32 v2)) rfl (fun _ => rfl) ?_
  refine P_gf 94 (.ref 245) rfl rfl rfl rfl rfl rfl ?_
  refine P_ld 95 (.int (i32 v1)) rfl (fun _ => rfl) ?_
  refine P_bald2 96 83 (m.2 83) rfl rfl rfl q1 rfl ?_
  refine P_gf 100 (.ref 246) rfl rfl rfl rfl rfl rfl ?_
  refine P_ld 101 (.int (i32 v1)) rfl (fun _ => rfl) ?_
  refine P_lald2 102 84 (m.2 84) rfl rfl rfl q1 rfl ?_
  refine P_ld 103 (.int (i32 v3)) rfl (fun _ => rfl) ?_
  refine P_ca0 106 258 [.ref 189, .int (i32 v2), .int (i32 ((m.2 83) v1)), .long (i64 ((m.2 84) v1)), .int (i32 v3)] [] rfl (fun _ => rfl) rfl (D_wantBit w m c N D hm v2 ((m.2 83) v1) ((m.2 84) v1) v3 q2 (rE_i (Cn_a hm 83) rfl _) (rE_l (Cn_a hm 84) rfl _) q3) (fun y27 n29 => ?_)
  exact dg_join_106 w c N D bb v1 v3 v4 v5 q1 q3 q4 q5 y27.2 n29 (jk [(2, v2)])
def rf_join (v1 : Int) (m : mR) : Option (Int × mR) :=
  bnd (rf_level ((m.2 80) v1)) fun y30 =>
  if y30 = 0 then
    rfl_join_88 v1 ((m.2 81) v1) ((m.2 82) v1) ((m.2 80) v1) (m.1 69) m
  else
    if y30 = 1 then
      rfl_join_88 v1 ((m.2 81) v1) ((m.2 82) v1) ((m.2 80) v1) (m.1 69) m
    else
      if y30 = 6 then
        rfl_join_261 v1 ((m.2 81) v1) ((m.2 82) v1) ((m.2 80) v1) (m.1 69) m
      else
        if y30 = 8 then
          if (m.2 83) v1 = 0 then
            rfl_join_149 v1 ((m.2 81) v1) ((m.2 82) v1) ((m.2 80) v1) (m.1 69) 1 m
          else
            rfl_join_149 v1 ((m.2 81) v1) ((m.2 82) v1) ((m.2 80) v1) (m.1 69) 0 m
        else
          if y30 = 2 then
            rfl_join_207 v1 ((m.2 81) v1) ((m.2 82) v1) ((m.2 80) v1) (m.1 69) m
          else
            if y30 = 3 then
              rfl_join_207 v1 ((m.2 81) v1) ((m.2 82) v1) ((m.2 80) v1) (m.1 69) m
            else
              if y30 = 4 then
                rfl_join_207 v1 ((m.2 81) v1) ((m.2 82) v1) ((m.2 80) v1) (m.1 69) m
              else
                if y30 = 5 then
                  rfl_join_207 v1 ((m.2 81) v1) ((m.2 82) v1) ((m.2 80) v1) (m.1 69) m
                else
                  if y30 = 7 then
                    rfl_join_207 v1 ((m.2 81) v1) ((m.2 82) v1) ((m.2 80) v1) (m.1 69) m
                  else
                    rfl_join_207 v1 ((m.2 81) v1) ((m.2 82) v1) ((m.2 80) v1) (m.1 69) m
theorem D_join (w : wX) (m : mR) (c : Nat → Option am_C) (N D : Nat) (hm : Cn m) (v1 : Int) (q1 : R32 v1) : PC w D 260 [.ref 189, .int (i32 v1)] (mhp m c, N) (QS (FR0 c N) (rf_join v1 m)) := by
  refine Pc_of (fun D bb => ?_) D
  unfold rf_join
  show PP bb w D pm_260 (0, [(0, .ref 189), (1, .int (i32 v1))], [], (mhp (mO m [] []) c, N), 0, 0) _
  refine P_gf 4 (.ref 243) rfl rfl rfl rfl rfl rfl ?_
  refine P_ld 5 (.int (i32 v1)) rfl (fun _ => rfl) ?_
  refine P_iald2 6 81 (m.2 81) rfl rfl rfl q1 rfl ?_
  refine P_sto 7 [(2, .int (i32 ((m.2 81) v1))), (0, .ref 189), (1, .int (i32 v1))] rfl (fun _ => rfl) ?_
  refine P_gf 11 (.ref 244) rfl rfl rfl rfl rfl rfl ?_
  refine P_ld 12 (.int (i32 v1)) rfl (fun _ => rfl) ?_
  refine P_iald2 13 82 (m.2 82) rfl rfl rfl q1 rfl ?_
  refine P_sto 14 [(3, .int (i32 ((m.2 82) v1))), (2, .int (i32 ((m.2 81) v1))), (0, .ref 189), (1, .int (i32 v1))] rfl (fun _ => rfl) ?_
  refine P_gf 18 (.ref 242) rfl rfl rfl rfl rfl rfl ?_
  refine P_ld 19 (.int (i32 v1)) rfl (fun _ => rfl) ?_
  refine P_iald2 20 80 (m.2 80) rfl rfl rfl q1 rfl ?_
  refine P_sto 22 [(4, .int (i32 ((m.2 80) v1))), (3, .int (i32 ((m.2 82) v1))), (2, .int (i32 ((m.2 81) v1))), (0, .ref 189), (1, .int (i32 v1))] rfl (fun _ => rfl) ?_
  refine P_gf 26 (.int (i32 (m.1 69))) rfl rfl rfl rfl rfl rfl ?_
  refine P_sto 28 [(5, .int (i32 (m.1 69))), (4, .int (i32 ((m.2 80) v1))), (3, .int (i32 ((m.2 82) v1))), (2, .int (i32 ((m.2 81) v1))), (0, .ref 189), (1, .int (i32 v1))] rfl (fun _ => rfl) ?_
  refine P_gf 32 (.ref 242) rfl rfl rfl rfl rfl rfl ?_
  refine P_ld 33 (.int (i32 v1)) rfl (fun _ => rfl) ?_
  refine P_iald2 34 80 (m.2 80) rfl rfl rfl q1 rfl ?_
  refine P_cp1 37 259 [.int (i32 ((m.2 80) v1))] [] rfl (fun _ => rfl) rfl (D_level w _ D ((m.2 80) v1) (rE_i (Cn_a hm 80) rfl _)) (fun y30 h31 => ?_)
  refine P_cs (fun h32 => ?_) (fun h32 => ?_)
  · skip
    refine P_cast 0 h32 ?_
    refine P_pop 88 rfl (fun _ => rfl) ?_
    refine P_lv (b := [(0, .ref 189), (1, .int (i32 v1)), (2, .int (i32 ((m.2 81) v1))), (3, .int (i32 ((m.2 82) v1))), (4, .int (i32 ((m.2 80) v1))), (5, .int (i32 (m.1 69)))]) rfl rfl ⟨rfl, rfl, rfl, rfl, rfl, rfl, trivial⟩ ?_
    exact dg_join_88 w c N D bb v1 ((m.2 81) v1) ((m.2 82) v1) ((m.2 80) v1) (m.1 69) q1 (rE_i (Cn_a hm 81) rfl _) (rE_i (Cn_a hm 82) rfl _) (rE_i (Cn_a hm 80) rfl _) (Cn_i hm 69 rfl) m hm (jk [])
  · skip
    refine P_cs (fun h33 => ?_) (fun h33 => ?_)
    · skip
      refine P_cast 1 h33 ?_
      refine P_pop 88 rfl (fun _ => rfl) ?_
      refine P_lv (b := [(0, .ref 189), (1, .int (i32 v1)), (2, .int (i32 ((m.2 81) v1))), (3, .int (i32 ((m.2 82) v1))), (4, .int (i32 ((m.2 80) v1))), (5, .int (i32 (m.1 69)))]) rfl rfl ⟨rfl, rfl, rfl, rfl, rfl, rfl, trivial⟩ ?_
      exact dg_join_88 w c N D bb v1 ((m.2 81) v1) ((m.2 82) v1) ((m.2 80) v1) (m.1 69) q1 (rE_i (Cn_a hm 81) rfl _) (rE_i (Cn_a hm 82) rfl _) (rE_i (Cn_a hm 80) rfl _) (Cn_i hm 69 rfl) m hm (jk [])
    · skip
      refine P_cs (fun h34 => ?_) (fun h34 => ?_)
      · skip
        refine P_cast 6 h34 ?_
        refine P_pop 131 rfl (fun _ => rfl) ?_
        refine P_goto 261 rfl (fun _ => rfl) ?_
        refine P_lv (b := [(0, .ref 189), (1, .int (i32 v1)), (2, .int (i32 ((m.2 81) v1))), (3, .int (i32 ((m.2 82) v1))), (4, .int (i32 ((m.2 80) v1))), (5, .int (i32 (m.1 69)))]) rfl rfl ⟨rfl, rfl, rfl, rfl, rfl, rfl, trivial⟩ ?_
        exact dg_join_261 w c N D bb v1 ((m.2 81) v1) ((m.2 82) v1) ((m.2 80) v1) (m.1 69) q1 (rE_i (Cn_a hm 81) rfl _) (rE_i (Cn_a hm 82) rfl _) (rE_i (Cn_a hm 80) rfl _) (Cn_i hm 69 rfl) m hm (jk [])
      · skip
        refine P_cs (fun h35 => ?_) (fun h35 => ?_)
        · skip
          refine P_cast 8 h35 ?_
          refine P_pop 134 rfl (fun _ => rfl) ?_
          refine P_ld 135 (.ref 189) rfl (fun _ => rfl) ?_
          refine P_gf 139 (.ref 245) rfl rfl rfl rfl rfl rfl ?_
          refine P_ld 140 (.int (i32 v1)) rfl (fun _ => rfl) ?_
          refine P_bald2 141 83 (m.2 83) rfl rfl rfl q1 rfl ?_
          refine P_ifE 148 144 rfl rfl rfl (rE_i (Cn_a hm 83) rfl _) rfl (fun h36 => ?_) (fun h36 => ?_)
          · skip
            refine P_ld 145 (.int (i32 1)) rfl (fun _ => rfl) ?_
            refine P_goto 149 rfl (fun _ => rfl) ?_
            refine P_lv (b := [(0, .ref 189), (1, .int (i32 v1)), (2, .int (i32 ((m.2 81) v1))), (3, .int (i32 ((m.2 82) v1))), (4, .int (i32 ((m.2 80) v1))), (5, .int (i32 (m.1 69)))]) rfl rfl ⟨rfl, rfl, rfl, rfl, rfl, rfl, trivial⟩ ?_
            exact dg_join_149 w c N D bb v1 ((m.2 81) v1) ((m.2 82) v1) ((m.2 80) v1) (m.1 69) 1 q1 (rE_i (Cn_a hm 81) rfl _) (rE_i (Cn_a hm 82) rfl _) (rE_i (Cn_a hm 80) rfl _) (Cn_i hm 69 rfl) (l32 1 rfl) m hm (jk [])
          · skip
            refine P_ld 149 (.int (i32 0)) rfl (fun _ => rfl) ?_
            refine P_lv (b := [(0, .ref 189), (1, .int (i32 v1)), (2, .int (i32 ((m.2 81) v1))), (3, .int (i32 ((m.2 82) v1))), (4, .int (i32 ((m.2 80) v1))), (5, .int (i32 (m.1 69)))]) rfl rfl ⟨rfl, rfl, rfl, rfl, rfl, rfl, trivial⟩ ?_
            exact dg_join_149 w c N D bb v1 ((m.2 81) v1) ((m.2 82) v1) ((m.2 80) v1) (m.1 69) 0 q1 (rE_i (Cn_a hm 81) rfl _) (rE_i (Cn_a hm 82) rfl _) (rE_i (Cn_a hm 80) rfl _) (Cn_i hm 69 rfl) (l32 0 rfl) m hm (jk [])
        · skip
          refine P_cs (fun h37 => ?_) (fun h37 => ?_)
          · skip
            refine P_cast 2 h37 ?_
            refine P_pop 207 rfl (fun _ => rfl) ?_
            refine P_lv (b := [(0, .ref 189), (1, .int (i32 v1)), (2, .int (i32 ((m.2 81) v1))), (3, .int (i32 ((m.2 82) v1))), (4, .int (i32 ((m.2 80) v1))), (5, .int (i32 (m.1 69)))]) rfl rfl ⟨rfl, rfl, rfl, rfl, rfl, rfl, trivial⟩ ?_
            exact dg_join_207 w c N D bb v1 ((m.2 81) v1) ((m.2 82) v1) ((m.2 80) v1) (m.1 69) q1 (rE_i (Cn_a hm 81) rfl _) (rE_i (Cn_a hm 82) rfl _) (rE_i (Cn_a hm 80) rfl _) (Cn_i hm 69 rfl) m hm (jk [])
          · skip
            refine P_cs (fun h38 => ?_) (fun h38 => ?_)
            · skip
              refine P_cast 3 h38 ?_
              refine P_pop 207 rfl (fun _ => rfl) ?_
              refine P_lv (b := [(0, .ref 189), (1, .int (i32 v1)), (2, .int (i32 ((m.2 81) v1))), (3, .int (i32 ((m.2 82) v1))), (4, .int (i32 ((m.2 80) v1))), (5, .int (i32 (m.1 69)))]) rfl rfl ⟨rfl, rfl, rfl, rfl, rfl, rfl, trivial⟩ ?_
              exact dg_join_207 w c N D bb v1 ((m.2 81) v1) ((m.2 82) v1) ((m.2 80) v1) (m.1 69) q1 (rE_i (Cn_a hm 81) rfl _) (rE_i (Cn_a hm 82) rfl _) (rE_i (Cn_a hm 80) rfl _) (Cn_i hm 69 rfl) m hm (jk [])
            · skip
              refine P_cs (fun h39 => ?_) (fun h39 => ?_)
              · skip
                refine P_cast 4 h39 ?_
                refine P_pop 207 rfl (fun _ => rfl) ?_
                refine P_lv (b := [(0, .ref 189), (1, .int (i32 v1)), (2, .int (i32 ((m.2 81) v1))), (3, .int (i32 ((m.2 82) v1))), (4, .int (i32 ((m.2 80) v1))), (5, .int (i32 (m.1 69)))]) rfl rfl ⟨rfl, rfl, rfl, rfl, rfl, rfl, trivial⟩ ?_
                exact dg_join_207 w c N D bb v1 ((m.2 81) v1) ((m.2 82) v1) ((m.2 80) v1) (m.1 69) q1 (rE_i (Cn_a hm 81) rfl _) (rE_i (Cn_a hm 82) rfl _) (rE_i (Cn_a hm 80) rfl _) (Cn_i hm 69 rfl) m hm (jk [])
              · skip
                refine P_cs (fun h40 => ?_) (fun h40 => ?_)
                · skip
                  refine P_cast 5 h40 ?_
                  refine P_pop 207 rfl (fun _ => rfl) ?_
                  refine P_lv (b := [(0, .ref 189), (1, .int (i32 v1)), (2, .int (i32 ((m.2 81) v1))), (3, .int (i32 ((m.2 82) v1))), (4, .int (i32 ((m.2 80) v1))), (5, .int (i32 (m.1 69)))]) rfl rfl ⟨rfl, rfl, rfl, rfl, rfl, rfl, trivial⟩ ?_
                  exact dg_join_207 w c N D bb v1 ((m.2 81) v1) ((m.2 82) v1) ((m.2 80) v1) (m.1 69) q1 (rE_i (Cn_a hm 81) rfl _) (rE_i (Cn_a hm 82) rfl _) (rE_i (Cn_a hm 80) rfl _) (Cn_i hm 69 rfl) m hm (jk [])
                · skip
                  refine P_cs (fun h41 => ?_) (fun h41 => ?_)
                  · skip
                    refine P_cast 7 h41 ?_
                    refine P_pop 207 rfl (fun _ => rfl) ?_
                    refine P_lv (b := [(0, .ref 189), (1, .int (i32 v1)), (2, .int (i32 ((m.2 81) v1))), (3, .int (i32 ((m.2 82) v1))), (4, .int (i32 ((m.2 80) v1))), (5, .int (i32 (m.1 69)))]) rfl rfl ⟨rfl, rfl, rfl, rfl, rfl, rfl, trivial⟩ ?_
                    exact dg_join_207 w c N D bb v1 ((m.2 81) v1) ((m.2 82) v1) ((m.2 80) v1) (m.1 69) q1 (rE_i (Cn_a hm 81) rfl _) (rE_i (Cn_a hm 82) rfl _) (rE_i (Cn_a hm 80) rfl _) (Cn_i hm 69 rfl) m hm (jk [])
                  · skip
                    refine P_tsd 207 rfl rfl h31 (by omega) ?_
                    refine P_lv (b := [(0, .ref 189), (1, .int (i32 v1)), (2, .int (i32 ((m.2 81) v1))), (3, .int (i32 ((m.2 82) v1))), (4, .int (i32 ((m.2 80) v1))), (5, .int (i32 (m.1 69)))]) rfl rfl ⟨rfl, rfl, rfl, rfl, rfl, rfl, trivial⟩ ?_
                    exact dg_join_207 w c N D bb v1 ((m.2 81) v1) ((m.2 82) v1) ((m.2 80) v1) (m.1 69) q1 (rE_i (Cn_a hm 81) rfl _) (rE_i (Cn_a hm 82) rfl _) (rE_i (Cn_a hm 80) rfl _) (Cn_i hm 69 rfl) m hm (jk [])
def cs_endChoice_33 (s : Int × mR) : Prop := R32 s.1 ∧ Cn s.2
def cx_endChoice_33 : (mR) → Prop := (fun (e : mR) => Cn e)
def hd_endChoice_33 (c : Nat → Option am_C) (N : Nat) (s : Int × mR) (j : Nat → Int) : ag_St af_T := (33, [(0, .ref 189), (1, .int (i32 s.1)), (2, .int (i32 (j 2))), (3, .int (i32 (j 3)))], [], (mhp s.2 c, N), 0, 0)
def ex_endChoice_33 (c : Nat → Option am_C) (N : Nat) : (mR) → (Nat → Int) → ag_St af_T := (fun (e : mR) (j : Nat → Int) => ((195, [(0, .ref 189), (1, .int (i32 (j 1))), (2, .int (i32 (j 2))), (3, .int (i32 (j 3)))], [], (mhp e c, N), 0, 0) : ag_St af_T))
def rfl_endChoice_226 (v2 : Int) (m : mR) : Option (Int × mR) :=
  some (0, (mO m [(70, v2), (73, cut ((m.1 73) - 1)), (75, 1)] []))
theorem dg_endChoice_226 (w : wX) (c : Nat → Option am_C) (N D : Nat) (bb : Nat) (v2 : Int) (q2 : R32 v2) (m : mR) (hm : Cn m) (j : Nat → Int) : PP bb w D pm_264 (226, [(0, .ref 189), (1, .int (i32 (j 1))), (2, .int (i32 v2)), (3, .int (i32 (j 3)))], [], (mhp m c, N), 0, 0) (QS (FR0 c N) (rfl_endChoice_226 v2 m)) := by
  unfold rfl_endChoice_226
  show PP bb w D pm_264 (226, [(0, .ref 189), (1, .int (i32 (j 1))), (2, .int (i32 v2)), (3, .int (i32 (j 3)))], [], (mhp (mO m [] []) c, N), 0, 0) _
  refine P_ld 227 (.ref 189) rfl (fun _ => rfl) ?_
  refine P_ld 228 (.ref 189) rfl (fun _ => rfl) ?_
  refine P_gf1 231 (.int (i32 (m.1 73))) rfl rfl rfl rfl ?_
  refine P_ld 232 (.int (i32 1)) rfl (fun _ => rfl) ?_
  refine P_op 233 (cut ((m.1 73) - 1)) _ rfl (fun _ => rfl) o_sub ?_
  refine P_pf (l' := [(73, cut ((m.1 73) - 1))]) 236 (cut ((m.1 73) - 1)) rfl rfl rfl rfl rfl rfl ?_
  refine P_ld 237 (.ref 189) rfl (fun _ => rfl) ?_
  refine P_ld 238 (.int (i32 v2)) rfl (fun _ => rfl) ?_
  refine P_pf (l' := [(70, v2), (73, cut ((m.1 73) - 1))]) 241 v2 rfl rfl rfl rfl rfl rfl ?_
  refine P_ld 242 (.ref 189) rfl (fun _ => rfl) ?_
  refine P_ld 243 (.int (i32 1)) rfl (fun _ => rfl) ?_
  refine P_pf (l' := [(70, v2), (73, cut ((m.1 73) - 1)), (75, 1)]) 246 1 rfl rfl rfl rfl rfl rfl ?_
  exact P_re0 rfl rfl (Cn_mO hm ⟨(rV_i rfl q2), (rV_i rfl cut_r), (rV_i rfl (l32 1 rfl)), trivial⟩ trivial)
def rfl_endChoice_195 (m : mR) : Option (Int × mR) :=
  if m.1 73 = 0 then
    some (0, (mO m [(75, 3)] []))
  else
    bnd (rf_need 41 m) fun y3 =>
    rfl_endChoice_226 ((m.2 77) (cut ((m.1 73) - 1))) y3.2
theorem dg_endChoice_195 (w : wX) (c : Nat → Option am_C) (N D : Nat) (bb : Nat) (m : mR) (hm : Cn m) (j : Nat → Int) : PP bb w D pm_264 (195, [(0, .ref 189), (1, .int (i32 (j 1))), (2, .int (i32 (j 2))), (3, .int (i32 (j 3)))], [], (mhp m c, N), 0, 0) (QS (FR0 c N) (rfl_endChoice_195 m)) := by
  unfold rfl_endChoice_195
  show PP bb w D pm_264 (195, [(0, .ref 189), (1, .int (i32 (j 1))), (2, .int (i32 (j 2))), (3, .int (i32 (j 3)))], [], (mhp (mO m [] []) c, N), 0, 0) _
  refine P_gf 199 (.int (i32 (m.1 73))) rfl rfl rfl rfl rfl rfl ?_
  refine P_ifE 208 202 rfl rfl rfl (Cn_i hm 73 rfl) rfl (fun h2 => ?_) (fun h2 => ?_)
  · skip
    refine P_ld 203 (.ref 189) rfl (fun _ => rfl) ?_
    refine P_ld 204 (.int (i32 3)) rfl (fun _ => rfl) ?_
    refine P_pf (l' := [(75, 3)]) 207 3 rfl rfl rfl rfl rfl rfl ?_
    exact P_re0 rfl rfl (Cn_mO hm ⟨(rV_i rfl (l32 3 rfl)), trivial⟩ trivial)
  · skip
    refine P_gf 212 (.ref 239) rfl rfl rfl rfl rfl rfl ?_
    refine P_gf 216 (.int (i32 (m.1 73))) rfl rfl rfl rfl rfl rfl ?_
    refine P_ld 217 (.int (i32 1)) rfl (fun _ => rfl) ?_
    refine P_op 218 (cut ((m.1 73) - 1)) _ rfl (fun _ => rfl) o_sub ?_
    refine P_iald2 219 77 (m.2 77) rfl rfl rfl cut_r rfl ?_
    refine P_sto 220 [(2, .int (i32 ((m.2 77) (cut ((m.1 73) - 1))))), (0, .ref 189), (1, .int (i32 (j 1))), (3, .int (i32 (j 3)))] rfl (fun _ => rfl) ?_
    refine P_ld 221 (.ref 189) rfl (fun _ => rfl) ?_
    refine P_ld 223 (.int (i32 41)) rfl (fun _ => rfl) ?_
    refine P_ca0 226 232 [.ref 189, .int (i32 41)] [] rfl (fun _ => rfl) rfl (D_need w m c N D hm 41 (l32 41 rfl)) (fun y3 n5 => ?_)
    refine P_lv (b := [(0, .ref 189), (1, .int (i32 (j 1))), (2, .int (i32 ((m.2 77) (cut ((m.1 73) - 1))))), (3, .int (i32 (j 3)))]) rfl rfl ⟨rfl, rfl, rfl, rfl, trivial⟩ ?_
    exact dg_endChoice_226 w c N D bb ((m.2 77) (cut ((m.1 73) - 1))) (rE_i (Cn_a hm 77) rfl _) y3.2 n5 (jk [(1, j 1), (3, j 3)])
def rfl_endChoice_191 (u0 : Int) (m : mR) : Option (Sum (Int × mR) (mR)) :=
  some (.inl (u0, m))
theorem dg_endChoice_191 (w : wX) (c : Nat → Option am_C) (N D : Nat) (bb : Nat) (u0 : Int) (r0 : R32 u0) (m : mR) (hm : Cn m) (j : Nat → Int) (Q2 : Sum (Int × mR) (mR) → ag_Re af_T → Prop) (H1 : ∀ s j, cs_endChoice_33 s → PP bb w D pm_264 (hd_endChoice_33 c N s j) (Q2 (.inl s))) (H2 : ∀ x j, cx_endChoice_33 x → PP bb w D pm_264 (ex_endChoice_33 c N x j) (Q2 (.inr x))) : PP bb w D pm_264 (191, [(0, .ref 189), (1, .int (i32 (j 1))), (2, .int (i32 (j 2))), (3, .int (i32 (j 3)))], [.int (i32 u0)], (mhp m c, N), 0, 0) (QS Q2 (rfl_endChoice_191 u0 m)) := by
  unfold rfl_endChoice_191
  show PP bb w D pm_264 (191, [(0, .ref 189), (1, .int (i32 (j 1))), (2, .int (i32 (j 2))), (3, .int (i32 (j 3)))], [.int (i32 u0)], (mhp (mO m [] []) c, N), 0, 0) _
  refine P_sto 192 [(1, .int (i32 u0)), (0, .ref 189), (2, .int (i32 (j 2))), (3, .int (i32 (j 3)))] rfl (fun _ => rfl) ?_
  refine P_goto 33 rfl (fun _ => rfl) ?_
  refine P_some ?_
  refine P_lv (b := [(0, .ref 189), (1, .int (i32 u0)), (2, .int (i32 (j 2))), (3, .int (i32 (j 3)))]) rfl rfl ⟨rfl, rfl, rfl, rfl, trivial⟩ ?_
  exact H1 (u0, m) (jk [(2, j 2), (3, j 3)]) ⟨r0, hm⟩
def rfl_endChoice_190 (m : mR) : Option (Sum (Int × mR) (mR)) :=
  rfl_endChoice_191 0 m
theorem dg_endChoice_190 (w : wX) (c : Nat → Option am_C) (N D : Nat) (bb : Nat) (m : mR) (hm : Cn m) (j : Nat → Int) (Q2 : Sum (Int × mR) (mR) → ag_Re af_T → Prop) (H1 : ∀ s j, cs_endChoice_33 s → PP bb w D pm_264 (hd_endChoice_33 c N s j) (Q2 (.inl s))) (H2 : ∀ x j, cx_endChoice_33 x → PP bb w D pm_264 (ex_endChoice_33 c N x j) (Q2 (.inr x))) : PP bb w D pm_264 (190, [(0, .ref 189), (1, .int (i32 (j 1))), (2, .int (i32 (j 2))), (3, .int (i32 (j 3)))], [], (mhp m c, N), 0, 0) (QS Q2 (rfl_endChoice_190 m)) := by
  unfold rfl_endChoice_190
  show PP bb w D pm_264 (190, [(0, .ref 189), (1, .int (i32 (j 1))), (2, .int (i32 (j 2))), (3, .int (i32 (j 3)))], [], (mhp (mO m [] []) c, N), 0, 0) _
  refine P_ld 191 (.int (i32 0)) rfl (fun _ => rfl) ?_
  exact dg_endChoice_191 w c N D bb 0 (l32 0 rfl) m hm (jk [(1, j 1), (2, j 2), (3, j 3)]) Q2 H1 H2
def rfl_endChoice_152 (m : mR) : Option (Sum (Int × mR) (mR)) :=
  if cut ((m.1 73) - 1) ≤ 0 then
    rfl_endChoice_190 (mO m [(73, cut ((m.1 73) - 1)), (74, cut ((m.1 74) - 1))] [])
  else
    if m.1 10 = 0 then
      rfl_endChoice_191 1 (mO m [(73, cut ((m.1 73) - 1)), (74, cut ((m.1 74) - 1))] [])
    else
      rfl_endChoice_190 (mO m [(73, cut ((m.1 73) - 1)), (74, cut ((m.1 74) - 1))] [])
theorem dg_endChoice_152 (w : wX) (c : Nat → Option am_C) (N D : Nat) (bb : Nat) (m : mR) (hm : Cn m) (j : Nat → Int) (Q2 : Sum (Int × mR) (mR) → ag_Re af_T → Prop) (H1 : ∀ s j, cs_endChoice_33 s → PP bb w D pm_264 (hd_endChoice_33 c N s j) (Q2 (.inl s))) (H2 : ∀ x j, cx_endChoice_33 x → PP bb w D pm_264 (ex_endChoice_33 c N x j) (Q2 (.inr x))) : PP bb w D pm_264 (152, [(0, .ref 189), (1, .int (i32 (j 1))), (2, .int (i32 (j 2))), (3, .int (i32 (j 3)))], [], (mhp m c, N), 0, 0) (QS Q2 (rfl_endChoice_152 m)) := by
  unfold rfl_endChoice_152
  show PP bb w D pm_264 (152, [(0, .ref 189), (1, .int (i32 (j 1))), (2, .int (i32 (j 2))), (3, .int (i32 (j 3)))], [], (mhp (mO m [] []) c, N), 0, 0) _
  refine P_ld 153 (.ref 189) rfl (fun _ => rfl) ?_
  refine P_ld 154 (.ref 189) rfl (fun _ => rfl) ?_
  refine P_gf1 157 (.int (i32 (m.1 73))) rfl rfl rfl rfl ?_
  refine P_ld 158 (.int (i32 1)) rfl (fun _ => rfl) ?_
  refine P_op 159 (cut ((m.1 73) - 1)) _ rfl (fun _ => rfl) o_sub ?_
  refine P_pf (l' := [(73, cut ((m.1 73) - 1))]) 162 (cut ((m.1 73) - 1)) rfl rfl rfl rfl rfl rfl ?_
  refine P_ld 163 (.ref 189) rfl (fun _ => rfl) ?_
  refine P_ld 164 (.ref 189) rfl (fun _ => rfl) ?_
  refine P_gf1 167 (.int (i32 (m.1 74))) rfl rfl rfl rfl ?_
  refine P_ld 168 (.int (i32 1)) rfl (fun _ => rfl) ?_
  refine P_op 169 (cut ((m.1 74) - 1)) _ rfl (fun _ => rfl) o_sub ?_
  refine P_pf (l' := [(73, cut ((m.1 73) - 1)), (74, cut ((m.1 74) - 1))]) 172 (cut ((m.1 74) - 1)) rfl rfl rfl rfl rfl rfl ?_
  refine P_gf 176 (.int (i32 (cut ((m.1 73) - 1)))) rfl rfl rfl rfl rfl rfl ?_
  refine P_ifF 190 179 rfl rfl rfl cut_r rfl (fun h6 => ?_) (fun h6 => ?_)
  · skip
    exact dg_endChoice_190 w c N D bb (mO m [(73, cut ((m.1 73) - 1)), (74, cut ((m.1 74) - 1))] []) (Cn_mO hm ⟨(rV_i rfl cut_r), (rV_i rfl cut_r), trivial⟩ trivial) (jk [(1, j 1), (2, j 2), (3, j 3)]) Q2 H1 H2
  · skip
    refine P_gf 183 (.int (i32 (m.1 10))) rfl rfl rfl rfl rfl rfl ?_
    refine P_ifE 190 186 rfl rfl rfl (Cn_i hm 10 rfl) rfl (fun h7 => ?_) (fun h7 => ?_)
    · skip
      refine P_ld 187 (.int (i32 1)) rfl (fun _ => rfl) ?_
      refine P_goto 191 rfl (fun _ => rfl) ?_
      exact dg_endChoice_191 w c N D bb 1 (l32 1 rfl) (mO m [(73, cut ((m.1 73) - 1)), (74, cut ((m.1 74) - 1))] []) (Cn_mO hm ⟨(rV_i rfl cut_r), (rV_i rfl cut_r), trivial⟩ trivial) (jk [(1, j 1), (2, j 2), (3, j 3)]) Q2 H1 H2
    · skip
      exact dg_endChoice_190 w c N D bb (mO m [(73, cut ((m.1 73) - 1)), (74, cut ((m.1 74) - 1))] []) (Cn_mO hm ⟨(rV_i rfl cut_r), (rV_i rfl cut_r), trivial⟩ trivial) (jk [(1, j 1), (2, j 2), (3, j 3)]) Q2 H1 H2
def rfl_endChoice_141 (v2 : Int) (v3 : Int) (m : mR) : Option (Sum (Int × mR) (mR)) :=
  bnd (rf_unit v3 ((m.2 86) v2) m) fun y8 =>
  rfl_endChoice_152 y8.2
theorem dg_endChoice_141 (w : wX) (c : Nat → Option am_C) (N D : Nat) (bb : Nat) (v2 : Int) (v3 : Int) (q2 : R32 v2) (q3 : R32 v3) (m : mR) (hm : Cn m) (j : Nat → Int) (Q2 : Sum (Int × mR) (mR) → ag_Re af_T → Prop) (H1 : ∀ s j, cs_endChoice_33 s → PP bb w D pm_264 (hd_endChoice_33 c N s j) (Q2 (.inl s))) (H2 : ∀ x j, cx_endChoice_33 x → PP bb w D pm_264 (ex_endChoice_33 c N x j) (Q2 (.inr x))) : PP bb w D pm_264 (141, [(0, .ref 189), (1, .int (i32 (j 1))), (2, .int (i32 v2)), (3, .int (i32 v3))], [], (mhp m c, N), 0, 0) (QS Q2 (rfl_endChoice_141 v2 v3 m)) := by
  unfold rfl_endChoice_141
  show PP bb w D pm_264 (141, [(0, .ref 189), (1, .int (i32 (j 1))), (2, .int (i32 v2)), (3, .int (i32 v3))], [], (mhp (mO m [] []) c, N), 0, 0) _
  refine P_ld 142 (.ref 189) rfl (fun _ => rfl) ?_
  refine P_ld 143 (.int (i32 v3)) rfl (fun _ => rfl) ?_
  refine P_gf 147 (.ref 248) rfl rfl rfl rfl rfl rfl ?_
  refine P_ld 148 (.int (i32 v2)) rfl (fun _ => rfl) ?_
  refine P_iald2 149 86 (m.2 86) rfl rfl rfl q2 rfl ?_
  refine P_ca0 152 250 [.ref 189, .int (i32 v3), .int (i32 ((m.2 86) v2))] [] rfl (fun _ => rfl) rfl (D_unit w m c N D hm v3 ((m.2 86) v2) q3 (rE_i (Cn_a hm 86) rfl _)) (fun y8 n10 => ?_)
  exact dg_endChoice_152 w c N D bb y8.2 n10 (jk [(1, j 1), (2, v2), (3, v3)]) Q2 H1 H2
def rfl_endChoice_130 (v2 : Int) (u0 : Int) (m : mR) : Option (Sum (Int × mR) (mR)) :=
  bnd (rf_node 407 u0 0 0 m) fun y11 =>
  rfl_endChoice_141 v2 u0 y11.2
theorem dg_endChoice_130 (w : wX) (c : Nat → Option am_C) (N D : Nat) (bb : Nat) (v2 : Int) (u0 : Int) (q2 : R32 v2) (r0 : R32 u0) (m : mR) (hm : Cn m) (j : Nat → Int) (Q2 : Sum (Int × mR) (mR) → ag_Re af_T → Prop) (H1 : ∀ s j, cs_endChoice_33 s → PP bb w D pm_264 (hd_endChoice_33 c N s j) (Q2 (.inl s))) (H2 : ∀ x j, cx_endChoice_33 x → PP bb w D pm_264 (ex_endChoice_33 c N x j) (Q2 (.inr x))) : PP bb w D pm_264 (130, [(0, .ref 189), (1, .int (i32 (j 1))), (2, .int (i32 v2)), (3, .int (i32 (j 3)))], [.int (i32 u0)], (mhp m c, N), 0, 0) (QS Q2 (rfl_endChoice_130 v2 u0 m)) := by
  unfold rfl_endChoice_130
  show PP bb w D pm_264 (130, [(0, .ref 189), (1, .int (i32 (j 1))), (2, .int (i32 v2)), (3, .int (i32 (j 3)))], [.int (i32 u0)], (mhp (mO m [] []) c, N), 0, 0) _
  refine P_sto 131 [(3, .int (i32 u0)), (0, .ref 189), (1, .int (i32 (j 1))), (2, .int (i32 v2))] rfl (fun _ => rfl) ?_
  refine P_ld 132 (.ref 189) rfl (fun _ => rfl) ?_
  refine P_ld 135 (.int (i32 407)) rfl (fun _ => rfl) ?_
  refine P_ld 136 (.int (i32 u0)) rfl (fun _ => rfl) ?_
  refine P_ld 137 (.int (i32 0)) rfl (fun _ => rfl) ?_
  refine P_ld 138 (.long (i64 0)) rfl (fun _ => rfl) ?_
  refine P_ca0 141 248 [.ref 189, .int (i32 407), .int (i32 u0), .int (i32 0), .long (i64 0)] [] rfl (fun _ => rfl) rfl (D_node w m c N D hm 407 u0 0 0 (l32 407 rfl) r0 (l32 0 rfl) (l64 0 rfl)) (fun y11 n13 => ?_)
  refine P_lv (b := [(0, .ref 189), (1, .int (i32 (j 1))), (2, .int (i32 v2)), (3, .int (i32 u0))]) rfl rfl ⟨rfl, rfl, rfl, rfl, trivial⟩ ?_
  exact dg_endChoice_141 w c N D bb v2 u0 q2 r0 y11.2 n13 (jk [(1, j 1)]) Q2 H1 H2
def rfl_endChoice_86 (v2 : Int) (m : mR) : Option (Sum (Int × mR) (mR)) :=
  bnd (rf_common ((m.2 87) v2) ((m.2 90) v2) ((m.2 92) v2) ((m.2 88) v2) (m.1 69) (m.1 71) (m.1 72) (m.1 70) m) fun y14 =>
  rfl_endChoice_130 v2 y14.1 y14.2
theorem dg_endChoice_86 (w : wX) (c : Nat → Option am_C) (N D : Nat) (bb : Nat) (v2 : Int) (q2 : R32 v2) (m : mR) (hm : Cn m) (j : Nat → Int) (Q2 : Sum (Int × mR) (mR) → ag_Re af_T → Prop) (H1 : ∀ s j, cs_endChoice_33 s → PP bb w D pm_264 (hd_endChoice_33 c N s j) (Q2 (.inl s))) (H2 : ∀ x j, cx_endChoice_33 x → PP bb w D pm_264 (ex_endChoice_33 c N x j) (Q2 (.inr x))) : PP bb w D pm_264 (86, [(0, .ref 189), (1, .int (i32 (j 1))), (2, .int (i32 v2)), (3, .int (i32 (j 3)))], [], (mhp m c, N), 0, 0) (QS Q2 (rfl_endChoice_86 v2 m)) := by
  unfold rfl_endChoice_86
  show PP bb w D pm_264 (86, [(0, .ref 189), (1, .int (i32 (j 1))), (2, .int (i32 v2)), (3, .int (i32 (j 3)))], [], (mhp (mO m [] []) c, N), 0, 0) _
  refine P_ld 87 (.ref 189) rfl (fun _ => rfl) ?_
  refine P_gf 91 (.ref 249) rfl rfl rfl rfl rfl rfl ?_
  refine P_ld 92 (.int (i32 v2)) rfl (fun _ => rfl) ?_
  refine P_iald2 93 87 (m.2 87) rfl rfl rfl q2 rfl ?_
  refine P_gf 97 (.ref 252) rfl rfl rfl rfl rfl rfl ?_
  refine P_ld 98 (.int (i32 v2)) rfl (fun _ => rfl) ?_
  refine P_bald2 99 90 (m.2 90) rfl rfl rfl q2 rfl ?_
  refine P_gf 103 (.ref 254) rfl rfl rfl rfl rfl rfl ?_
  refine P_ld 104 (.int (i32 v2)) rfl (fun _ => rfl) ?_
  refine P_lald2 105 92 (m.2 92) rfl rfl rfl q2 rfl ?_
  refine P_gf 109 (.ref 250) rfl rfl rfl rfl rfl rfl ?_
  refine P_ld 110 (.int (i32 v2)) rfl (fun _ => rfl) ?_
  refine P_iald2 111 88 (m.2 88) rfl rfl rfl q2 rfl ?_
  refine P_gf 115 (.int (i32 (m.1 69))) rfl rfl rfl rfl rfl rfl ?_
  refine P_gf 119 (.int (i32 (m.1 71))) rfl rfl rfl rfl rfl rfl ?_
  refine P_gf 123 (.long (i64 (m.1 72))) rfl rfl rfl rfl rfl rfl ?_
  refine P_gf 127 (.int (i32 (m.1 70))) rfl rfl rfl rfl rfl rfl ?_
  refine P_ca1 130 261 [.ref 189, .int (i32 ((m.2 87) v2)), .int (i32 ((m.2 90) v2)), .long (i64 ((m.2 92) v2)), .int (i32 ((m.2 88) v2)), .int (i32 (m.1 69)), .int (i32 (m.1 71)), .long (i64 (m.1 72)), .int (i32 (m.1 70))] [] rfl (fun _ => rfl) rfl (D_common w m c N D hm ((m.2 87) v2) ((m.2 90) v2) ((m.2 92) v2) ((m.2 88) v2) (m.1 69) (m.1 71) (m.1 72) (m.1 70) (rE_i (Cn_a hm 87) rfl _) (rE_i (Cn_a hm 90) rfl _) (rE_l (Cn_a hm 92) rfl _) (rE_i (Cn_a hm 88) rfl _) (Cn_i hm 69 rfl) (Cn_i hm 71 rfl) (Cn_l hm 72 rfl) (Cn_i hm 70 rfl)) (fun y14 h15 n16 => ?_)
  exact dg_endChoice_130 w c N D bb v2 y14.1 q2 h15 y14.2 n16 (jk [(1, j 1), (3, j 3)]) Q2 H1 H2
def rfb_endChoice_33 (s : Int × mR) : Option (Sum (Int × mR) (mR)) :=
  if s.1 = 0 then
    some (.inr s.2)
  else
    if (s.2.2 76) (cut ((s.2.1 73) - 1)) = 0 then
      bnd (rf_wantBit ((s.2.2 85) (cut ((s.2.1 73) - 1))) ((s.2.2 89) (cut ((s.2.1 73) - 1))) ((s.2.2 91) (cut ((s.2.1 73) - 1))) ((s.2.2 86) (cut ((s.2.1 73) - 1))) s.2) fun y20 =>
      rfl_endChoice_86 (cut ((s.2.1 73) - 1)) y20.2
    else
      some (.inr s.2)
theorem dh_endChoice_33 (w : wX) (c : Nat → Option am_C) (N D : Nat) (bb : Nat) (Q2 : Sum (Int × mR) (mR) → ag_Re af_T → Prop) (H1 : ∀ s j, cs_endChoice_33 s → PP bb w D pm_264 (hd_endChoice_33 c N s j) (Q2 (.inl s))) (H2 : ∀ x j, cx_endChoice_33 x → PP bb w D pm_264 (ex_endChoice_33 c N x j) (Q2 (.inr x))) (s : Int × mR) (j : Nat → Int) (hs : cs_endChoice_33 s) : PP (bb + 1) w D pm_264 (hd_endChoice_33 c N s j) (QS Q2 (rfb_endChoice_33 s)) := by
  obtain ⟨g1, gm⟩ := hs
  unfold rfb_endChoice_33
  show PP (bb + 1) w D pm_264 (33, [(0, .ref 189), (1, .int (i32 s.1)), (2, .int (i32 (j 2))), (3, .int (i32 (j 3)))], [], (mhp (mO s.2 [] []) c, N), 0, 0) _
  refine P1_ld 34 (.int (i32 s.1)) rfl (fun _ => rfl) ?_
  refine P_ifF 195 37 rfl rfl rfl g1 rfl (fun h18 => ?_) (fun h18 => ?_)
  · skip
    refine P_some ?_
    exact H2 s.2 (jk [(1, s.1), (2, j 2), (3, j 3)]) gm
  · skip
    refine P_gf 41 (.ref 238) rfl rfl rfl rfl rfl rfl ?_
    refine P_gf 45 (.int (i32 (s.2.1 73))) rfl rfl rfl rfl rfl rfl ?_
    refine P_ld 46 (.int (i32 1)) rfl (fun _ => rfl) ?_
    refine P_op 47 (cut ((s.2.1 73) - 1)) _ rfl (fun _ => rfl) o_sub ?_
    refine P_iald2 48 76 (s.2.2 76) rfl rfl rfl cut_r rfl ?_
    refine P_ifE 195 51 rfl rfl rfl (rE_i (Cn_a gm 76) rfl _) rfl (fun h19 => ?_) (fun h19 => ?_)
    · skip
      refine P_gf 55 (.int (i32 (s.2.1 73))) rfl rfl rfl rfl rfl rfl ?_
      refine P_ld 56 (.int (i32 1)) rfl (fun _ => rfl) ?_
      refine P_op 57 (cut ((s.2.1 73) - 1)) _ rfl (fun _ => rfl) o_sub ?_
      refine P_sto 58 [(2, .int (i32 (cut ((s.2.1 73) - 1)))), (0, .ref 189), (1, .int (i32 s.1)), (3, .int (i32 (j 3)))] rfl (fun _ => rfl) ?_
      refine P_ld 59 (.ref 189) rfl (fun _ => rfl) ?_
      refine P_gf 63 (.ref 247) rfl rfl rfl rfl rfl rfl ?_
      refine P_ld 64 (.int (i32 (cut ((s.2.1 73) - 1)))) rfl (fun _ => rfl) ?_
      refine P_iald2 65 85 (s.2.2 85) rfl rfl rfl cut_r rfl ?_
      refine P_gf 69 (.ref 251) rfl rfl rfl rfl rfl rfl ?_
      refine P_ld 70 (.int (i32 (cut ((s.2.1 73) - 1)))) rfl (fun _ => rfl) ?_
      refine P_bald2 71 89 (s.2.2 89) rfl rfl rfl cut_r rfl ?_
      refine P_gf 75 (.ref 253) rfl rfl rfl rfl rfl rfl ?_
      refine P_ld 76 (.int (i32 (cut ((s.2.1 73) - 1)))) rfl (fun _ => rfl) ?_
      refine P_lald2 77 91 (s.2.2 91) rfl rfl rfl cut_r rfl ?_
      refine P_gf 81 (.ref 248) rfl rfl rfl rfl rfl rfl ?_
      refine P_ld 82 (.int (i32 (cut ((s.2.1 73) - 1)))) rfl (fun _ => rfl) ?_
      refine P_iald2 83 86 (s.2.2 86) rfl rfl rfl cut_r rfl ?_
      refine P_ca0 86 258 [.ref 189, .int (i32 ((s.2.2 85) (cut ((s.2.1 73) - 1)))), .int (i32 ((s.2.2 89) (cut ((s.2.1 73) - 1)))), .long (i64 ((s.2.2 91) (cut ((s.2.1 73) - 1)))), .int (i32 ((s.2.2 86) (cut ((s.2.1 73) - 1))))] [] rfl (fun _ => rfl) rfl (D_wantBit w s.2 c N D gm ((s.2.2 85) (cut ((s.2.1 73) - 1))) ((s.2.2 89) (cut ((s.2.1 73) - 1))) ((s.2.2 91) (cut ((s.2.1 73) - 1))) ((s.2.2 86) (cut ((s.2.1 73) - 1))) (rE_i (Cn_a gm 85) rfl _) (rE_i (Cn_a gm 89) rfl _) (rE_l (Cn_a gm 91) rfl _) (rE_i (Cn_a gm 86) rfl _)) (fun y20 n22 => ?_)
      refine P_lv (b := [(0, .ref 189), (1, .int (i32 s.1)), (2, .int (i32 (cut ((s.2.1 73) - 1)))), (3, .int (i32 (j 3)))]) rfl rfl ⟨rfl, rfl, rfl, rfl, trivial⟩ ?_
      exact dg_endChoice_86 w c N D bb (cut ((s.2.1 73) - 1)) cut_r y20.2 n22 (jk [(1, s.1), (3, j 3)]) Q2 H1 H2
    · skip
      refine P_some ?_
      exact H2 s.2 (jk [(1, s.1), (2, j 2), (3, j 3)]) gm
def rfl_endChoice_32 (u0 : Int) (m : mR) : Option (Int × mR) :=
  bnd (whl rfb_endChoice_33 (u0, m)) (fun e23 : mR =>
    rfl_endChoice_195 e23)
theorem dg_endChoice_32 (w : wX) (c : Nat → Option am_C) (N D : Nat) (bb : Nat) (u0 : Int) (r0 : R32 u0) (m : mR) (hm : Cn m) (j : Nat → Int) : PP bb w D pm_264 (32, [(0, .ref 189)], [.int (i32 u0)], (mhp m c, N), 0, 0) (QS (FR0 c N) (rfl_endChoice_32 u0 m)) := by
  unfold rfl_endChoice_32
  show PP bb w D pm_264 (32, [(0, .ref 189)], [.int (i32 u0)], (mhp (mO m [] []) c, N), 0, 0) _
  refine P_sto 33 [(1, .int (i32 u0)), (0, .ref 189)] rfl (fun _ => rfl) ?_
  refine P_lv (b := [(0, .ref 189), (1, .int (i32 u0)), (2, .int (i32 0)), (3, .int (i32 0))]) rfl rfl ⟨rfl, rfl, trivial⟩ ?_
  refine P_bnd ?_
  refine P_whl (fun bb Q2 H1 H2 s9 j9 hs9 => dh_endChoice_33 w c N D bb Q2 H1 H2 s9 j9 hs9) bb (fun e23 j q24 => ?_) (u0, m) (jk []) ⟨r0, hm⟩
  have q25 := q24
  show PP bb w D pm_264 (195, [(0, .ref 189), (1, .int (i32 (j 1))), (2, .int (i32 (j 2))), (3, .int (i32 (j 3)))], [], (mhp (mO e23 [] []) c, N), 0, 0) (QS _ (rfl_endChoice_195 e23))
  exact dg_endChoice_195 w c N D bb e23 q25 (jk [(1, j 1), (2, j 2), (3, j 3)])
def rf_endChoice (m : mR) : Option (Int × mR) :=
  if cut ((m.1 73) - 1) ≤ 0 then
    rfl_endChoice_32 0 (mO m [(73, cut ((m.1 73) - 1)), (74, cut ((m.1 74) - 1))] [])
  else
    rfl_endChoice_32 1 (mO m [(73, cut ((m.1 73) - 1)), (74, cut ((m.1 74) - 1))] [])
theorem D_endChoice (w : wX) (m : mR) (c : Nat → Option am_C) (N D : Nat) (hm : Cn m) : PC w D 264 [.ref 189] (mhp m c, N) (QS (FR0 c N) (rf_endChoice m)) := by
  refine Pc_of (fun D bb => ?_) D
  unfold rf_endChoice
  show PP bb w D pm_264 (0, [(0, .ref 189)], [], (mhp (mO m [] []) c, N), 0, 0) _
  refine P_ld 1 (.ref 189) rfl (fun _ => rfl) ?_
  refine P_ld 2 (.ref 189) rfl (fun _ => rfl) ?_
  refine P_gf1 5 (.int (i32 (m.1 73))) rfl rfl rfl rfl ?_
  refine P_ld 6 (.int (i32 1)) rfl (fun _ => rfl) ?_
  refine P_op 7 (cut ((m.1 73) - 1)) _ rfl (fun _ => rfl) o_sub ?_
  refine P_pf (l' := [(73, cut ((m.1 73) - 1))]) 10 (cut ((m.1 73) - 1)) rfl rfl rfl rfl rfl rfl ?_
  refine P_ld 11 (.ref 189) rfl (fun _ => rfl) ?_
  refine P_ld 12 (.ref 189) rfl (fun _ => rfl) ?_
  refine P_gf1 15 (.int (i32 (m.1 74))) rfl rfl rfl rfl ?_
  refine P_ld 16 (.int (i32 1)) rfl (fun _ => rfl) ?_
  refine P_op 17 (cut ((m.1 74) - 1)) _ rfl (fun _ => rfl) o_sub ?_
  refine P_pf (l' := [(73, cut ((m.1 73) - 1)), (74, cut ((m.1 74) - 1))]) 20 (cut ((m.1 74) - 1)) rfl rfl rfl rfl rfl rfl ?_
  refine P_gf 24 (.int (i32 (cut ((m.1 73) - 1)))) rfl rfl rfl rfl rfl rfl ?_
  refine P_ifF 31 27 rfl rfl rfl cut_r rfl (fun h26 => ?_) (fun h26 => ?_)
  · skip
    refine P_ld 32 (.int (i32 0)) rfl (fun _ => rfl) ?_
    exact dg_endChoice_32 w c N D bb 0 (l32 0 rfl) (mO m [(73, cut ((m.1 73) - 1)), (74, cut ((m.1 74) - 1))] []) (Cn_mO hm ⟨(rV_i rfl cut_r), (rV_i rfl cut_r), trivial⟩ trivial) (jk [])
  · skip
    refine P_ld 28 (.int (i32 1)) rfl (fun _ => rfl) ?_
    refine P_goto 32 rfl (fun _ => rfl) ?_
    exact dg_endChoice_32 w c N D bb 1 (l32 1 rfl) (mO m [(73, cut ((m.1 73) - 1)), (74, cut ((m.1 74) - 1))] []) (Cn_mO hm ⟨(rV_i rfl cut_r), (rV_i rfl cut_r), trivial⟩ trivial) (jk [])
def rfl_endOr_140 (m : mR) : Option (Int × mR) :=
  bnd (rf_beginChoice m) fun y1 =>
  some (0, y1.2)
theorem dg_endOr_140 (w : wX) (c : Nat → Option am_C) (N D : Nat) (bb : Nat) (m : mR) (hm : Cn m) (j : Nat → Int) : PP bb w D pm_263 (140, [(0, .ref 189), (1, .int (i32 (j 1)))], [], (mhp m c, N), 0, 0) (QS (FR0 c N) (rfl_endOr_140 m)) := by
  unfold rfl_endOr_140
  show PP bb w D pm_263 (140, [(0, .ref 189), (1, .int (i32 (j 1)))], [], (mhp (mO m [] []) c, N), 0, 0) _
  refine P_ld 141 (.ref 189) rfl (fun _ => rfl) ?_
  refine P_ca0 144 245 [.ref 189] [] rfl (fun _ => rfl) rfl (D_beginChoice w m c N D hm) (fun y1 n3 => ?_)
  refine P_goto 151 rfl (fun _ => rfl) ?_
  exact P_re0 rfl rfl n3
def rfl_endOr_77 (v1 : Int) (m : mR) : Option (Int × mR) :=
  if (m.2 79) v1 = 1 then
    bnd (rf_need 58 (mO m [] [(79, upI (m.2 79) v1 2), (87, upI (m.2 87) v1 (m.1 69)), (88, upI (m.2 88) v1 (m.1 70)), (90, upI (m.2 90) v1 (nar1 (m.1 71))), (92, upI (m.2 92) v1 (m.1 72))])) fun y8 =>
    rfl_endOr_140 y8.2
  else
    bnd (rf_endChoice m) fun y5 =>
    some (0, y5.2)
theorem dg_endOr_77 (w : wX) (c : Nat → Option am_C) (N D : Nat) (bb : Nat) (v1 : Int) (q1 : R32 v1) (m : mR) (hm : Cn m) (j : Nat → Int) : PP bb w D pm_263 (77, [(0, .ref 189), (1, .int (i32 v1))], [], (mhp m c, N), 0, 0) (QS (FR0 c N) (rfl_endOr_77 v1 m)) := by
  unfold rfl_endOr_77
  show PP bb w D pm_263 (77, [(0, .ref 189), (1, .int (i32 v1))], [], (mhp (mO m [] []) c, N), 0, 0) _
  refine P_gf 81 (.ref 241) rfl rfl rfl rfl rfl rfl ?_
  refine P_ld 82 (.int (i32 v1)) rfl (fun _ => rfl) ?_
  refine P_iald2 83 79 (m.2 79) rfl rfl rfl q1 rfl ?_
  refine P_ld 84 (.int (i32 1)) rfl (fun _ => rfl) ?_
  refine P_icE 147 87 rfl rfl rfl (rE_i (Cn_a hm 79) rfl _) (l32 1 rfl) rfl (fun h4 => ?_) (fun h4 => ?_)
  · skip
    refine P_gf 91 (.ref 249) rfl rfl rfl rfl rfl rfl ?_
    refine P_ld 92 (.int (i32 v1)) rfl (fun _ => rfl) ?_
    refine P_gf 96 (.int (i32 (m.1 69))) rfl rfl rfl rfl rfl rfl ?_
    refine P_iast2 (a' := [(87, upI (m.2 87) v1 (m.1 69))]) 97 87 (m.2 87) rfl rfl rfl q1 rfl rfl ?_
    refine P_gf 101 (.ref 250) rfl rfl rfl rfl rfl rfl ?_
    refine P_ld 102 (.int (i32 v1)) rfl (fun _ => rfl) ?_
    refine P_gf 106 (.int (i32 (m.1 70))) rfl rfl rfl rfl rfl rfl ?_
    refine P_iast2 (a' := [(87, upI (m.2 87) v1 (m.1 69)), (88, upI (m.2 88) v1 (m.1 70))]) 107 88 (m.2 88) rfl rfl rfl q1 rfl rfl ?_
    refine P_gf 111 (.ref 252) rfl rfl rfl rfl rfl rfl ?_
    refine P_ld 112 (.int (i32 v1)) rfl (fun _ => rfl) ?_
    refine P_gf 116 (.int (i32 (m.1 71))) rfl rfl rfl rfl rfl rfl ?_
    refine P_bast2 (a' := [(87, upI (m.2 87) v1 (m.1 69)), (88, upI (m.2 88) v1 (m.1 70)), (90, upI (m.2 90) v1 (nar1 (m.1 71)))]) 117 90 (m.2 90) rfl rfl rfl q1 rfl rfl ?_
    refine P_gf 121 (.ref 254) rfl rfl rfl rfl rfl rfl ?_
    refine P_ld 122 (.int (i32 v1)) rfl (fun _ => rfl) ?_
    refine P_gf 126 (.long (i64 (m.1 72))) rfl rfl rfl rfl rfl rfl ?_
    refine P_last2 (a' := [(87, upI (m.2 87) v1 (m.1 69)), (88, upI (m.2 88) v1 (m.1 70)), (90, upI (m.2 90) v1 (nar1 (m.1 71))), (92, upI (m.2 92) v1 (m.1 72))]) 127 92 (m.2 92) rfl rfl rfl q1 rfl rfl ?_
    refine P_gf 131 (.ref 241) rfl rfl rfl rfl rfl rfl ?_
    refine P_ld 132 (.int (i32 v1)) rfl (fun _ => rfl) ?_
    refine P_ld 133 (.int (i32 2)) rfl (fun _ => rfl) ?_
    refine P_iast2 (a' := [(79, upI (m.2 79) v1 2), (87, upI (m.2 87) v1 (m.1 69)), (88, upI (m.2 88) v1 (m.1 70)), (90, upI (m.2 90) v1 (nar1 (m.1 71))), (92, upI (m.2 92) v1 (m.1 72))]) 134 79 (m.2 79) rfl rfl rfl q1 rfl rfl ?_
    refine P_ld 135 (.ref 189) rfl (fun _ => rfl) ?_
    refine P_ld 137 (.int (i32 58)) rfl (fun _ => rfl) ?_
    refine P_ca0 140 232 [.ref 189, .int (i32 58)] [] rfl (fun _ => rfl) rfl (D_need w (mO m [] [(79, upI (m.2 79) v1 2), (87, upI (m.2 87) v1 (m.1 69)), (88, upI (m.2 88) v1 (m.1 70)), (90, upI (m.2 90) v1 (nar1 (m.1 71))), (92, upI (m.2 92) v1 (m.1 72))]) c N D (Cn_mO hm trivial ⟨(rE_ui (Cn_a hm 79) rfl (l32 2 rfl)), (rE_ui (Cn_a hm 87) rfl (Cn_i hm 69 rfl)), (rE_ui (Cn_a hm 88) rfl (Cn_i hm 70 rfl)), (rE_ui (Cn_a hm 90) rfl t32_r), (rE_ul (Cn_a hm 92) rfl (Cn_l hm 72 rfl)), trivial⟩) 58 (l32 58 rfl)) (fun y8 n10 => ?_)
    exact dg_endOr_140 w c N D bb y8.2 n10 (jk [(1, v1)])
  · skip
    refine P_ld 148 (.ref 189) rfl (fun _ => rfl) ?_
    refine P_ca0 151 264 [.ref 189] [] rfl (fun _ => rfl) rfl (D_endChoice w m c N D hm) (fun y5 n7 => ?_)
    exact P_re0 rfl rfl n7
def rfl_endOr_69 (m : mR) : Option (Int × mR) :=
  some (0, (mO m [(75, 0)] []))
theorem dg_endOr_69 (w : wX) (c : Nat → Option am_C) (N D : Nat) (bb : Nat) (m : mR) (hm : Cn m) (j : Nat → Int) : PP bb w D pm_263 (69, [(0, .ref 189), (1, .int (i32 (j 1)))], [], (mhp m c, N), 0, 0) (QS (FR0 c N) (rfl_endOr_69 m)) := by
  unfold rfl_endOr_69
  show PP bb w D pm_263 (69, [(0, .ref 189), (1, .int (i32 (j 1)))], [], (mhp (mO m [] []) c, N), 0, 0) _
  refine P_ld 70 (.ref 189) rfl (fun _ => rfl) ?_
  refine P_ld 71 (.int (i32 0)) rfl (fun _ => rfl) ?_
  refine P_pf (l' := [(75, 0)]) 74 0 rfl rfl rfl rfl rfl rfl ?_
  refine P_goto 151 rfl (fun _ => rfl) ?_
  exact P_re0 rfl rfl (Cn_mO hm ⟨(rV_i rfl (l32 0 rfl)), trivial⟩ trivial)
def rf_endOr (v1 : Int) (m : mR) : Option (Int × mR) :=
  if (m.2 79) v1 = 0 then
    if m.1 7 = 63 then
      bnd (rf_next (mO m [] [(79, upI (m.2 79) v1 1), (85, upI (m.2 85) v1 (m.1 69)), (86, upI (m.2 86) v1 (m.1 70)), (89, upI (m.2 89) v1 (nar1 (m.1 71))), (91, upI (m.2 91) v1 (m.1 72))])) fun y13 =>
      rfl_endOr_69 y13.2
    else
      rfl_endOr_77 v1 m
  else
    rfl_endOr_77 v1 m
theorem D_endOr (w : wX) (m : mR) (c : Nat → Option am_C) (N D : Nat) (hm : Cn m) (v1 : Int) (q1 : R32 v1) : PC w D 263 [.ref 189, .int (i32 v1)] (mhp m c, N) (QS (FR0 c N) (rf_endOr v1 m)) := by
  refine Pc_of (fun D bb => ?_) D
  unfold rf_endOr
  show PP bb w D pm_263 (0, [(0, .ref 189), (1, .int (i32 v1))], [], (mhp (mO m [] []) c, N), 0, 0) _
  refine P_gf 4 (.ref 241) rfl rfl rfl rfl rfl rfl ?_
  refine P_ld 5 (.int (i32 v1)) rfl (fun _ => rfl) ?_
  refine P_iald2 6 79 (m.2 79) rfl rfl rfl q1 rfl ?_
  refine P_ifE 77 9 rfl rfl rfl (rE_i (Cn_a hm 79) rfl _) rfl (fun h11 => ?_) (fun h11 => ?_)
  · skip
    refine P_gf 13 (.int (i32 (m.1 7))) rfl rfl rfl rfl rfl rfl ?_
    refine P_ld 15 (.int (i32 63)) rfl (fun _ => rfl) ?_
    refine P_icE 77 18 rfl rfl rfl (Cn_i hm 7 rfl) (l32 63 rfl) rfl (fun h12 => ?_) (fun h12 => ?_)
    · skip
      refine P_gf 22 (.ref 247) rfl rfl rfl rfl rfl rfl ?_
      refine P_ld 23 (.int (i32 v1)) rfl (fun _ => rfl) ?_
      refine P_gf 27 (.int (i32 (m.1 69))) rfl rfl rfl rfl rfl rfl ?_
      refine P_iast2 (a' := [(85, upI (m.2 85) v1 (m.1 69))]) 28 85 (m.2 85) rfl rfl rfl q1 rfl rfl ?_
      refine P_gf 32 (.ref 248) rfl rfl rfl rfl rfl rfl ?_
      refine P_ld 33 (.int (i32 v1)) rfl (fun _ => rfl) ?_
      refine P_gf 37 (.int (i32 (m.1 70))) rfl rfl rfl rfl rfl rfl ?_
      refine P_iast2 (a' := [(85, upI (m.2 85) v1 (m.1 69)), (86, upI (m.2 86) v1 (m.1 70))]) 38 86 (m.2 86) rfl rfl rfl q1 rfl rfl ?_
      refine P_gf 42 (.ref 251) rfl rfl rfl rfl rfl rfl ?_
      refine P_ld 43 (.int (i32 v1)) rfl (fun _ => rfl) ?_
      refine P_gf 47 (.int (i32 (m.1 71))) rfl rfl rfl rfl rfl rfl ?_
      refine P_bast2 (a' := [(85, upI (m.2 85) v1 (m.1 69)), (86, upI (m.2 86) v1 (m.1 70)), (89, upI (m.2 89) v1 (nar1 (m.1 71)))]) 48 89 (m.2 89) rfl rfl rfl q1 rfl rfl ?_
      refine P_gf 52 (.ref 253) rfl rfl rfl rfl rfl rfl ?_
      refine P_ld 53 (.int (i32 v1)) rfl (fun _ => rfl) ?_
      refine P_gf 57 (.long (i64 (m.1 72))) rfl rfl rfl rfl rfl rfl ?_
      refine P_last2 (a' := [(85, upI (m.2 85) v1 (m.1 69)), (86, upI (m.2 86) v1 (m.1 70)), (89, upI (m.2 89) v1 (nar1 (m.1 71))), (91, upI (m.2 91) v1 (m.1 72))]) 58 91 (m.2 91) rfl rfl rfl q1 rfl rfl ?_
      refine P_gf 62 (.ref 241) rfl rfl rfl rfl rfl rfl ?_
      refine P_ld 63 (.int (i32 v1)) rfl (fun _ => rfl) ?_
      refine P_ld 64 (.int (i32 1)) rfl (fun _ => rfl) ?_
      refine P_iast2 (a' := [(79, upI (m.2 79) v1 1), (85, upI (m.2 85) v1 (m.1 69)), (86, upI (m.2 86) v1 (m.1 70)), (89, upI (m.2 89) v1 (nar1 (m.1 71))), (91, upI (m.2 91) v1 (m.1 72))]) 65 79 (m.2 79) rfl rfl rfl q1 rfl rfl ?_
      refine P_ld 66 (.ref 189) rfl (fun _ => rfl) ?_
      refine P_ca0 69 212 [.ref 189] [] rfl (fun _ => rfl) rfl (D_next w (mO m [] [(79, upI (m.2 79) v1 1), (85, upI (m.2 85) v1 (m.1 69)), (86, upI (m.2 86) v1 (m.1 70)), (89, upI (m.2 89) v1 (nar1 (m.1 71))), (91, upI (m.2 91) v1 (m.1 72))]) c N D (Cn_mO hm trivial ⟨(rE_ui (Cn_a hm 79) rfl (l32 1 rfl)), (rE_ui (Cn_a hm 85) rfl (Cn_i hm 69 rfl)), (rE_ui (Cn_a hm 86) rfl (Cn_i hm 70 rfl)), (rE_ui (Cn_a hm 89) rfl t32_r), (rE_ul (Cn_a hm 91) rfl (Cn_l hm 72 rfl)), trivial⟩)) (fun y13 n15 => ?_)
      exact dg_endOr_69 w c N D bb y13.2 n15 (jk [(1, v1)])
    · skip
      exact dg_endOr_77 w c N D bb v1 q1 m hm (jk [])
  · skip
    exact dg_endOr_77 w c N D bb v1 q1 m hm (jk [])
end X26F
