noncomputable section X26C
def rfl_sortHere_39 (u0 : Int) (m : mR) : Option Int :=
  some u0
theorem dg_sortHere_39 (w : wX) (c : Nat → Option am_C) (N D : Nat) (bb : Nat) (u0 : Int) (r0 : R32 u0) (m : mR) (hm : Cn m) (j : Nat → Int) : PP bb w D pm_227 (39, [(0, .ref 189), (1, .int (i32 (j 1))), (2, .int (i32 (j 2)))], [.int (i32 u0)], (mhp m c, N), 0, 0) (QS (FP1 (mhp m c, N)) (rfl_sortHere_39 u0 m)) := by
  unfold rfl_sortHere_39
  show PP bb w D pm_227 (39, [(0, .ref 189), (1, .int (i32 (j 1))), (2, .int (i32 (j 2)))], [.int (i32 u0)], (mhp (mO m [] []) c, N), 0, 0) _
  exact P_rp1 rfl r0
def rfl_sortHere_19 (u0 : Int) (m : mR) : Option Int :=
  some u0
theorem dg_sortHere_19 (w : wX) (c : Nat → Option am_C) (N D : Nat) (bb : Nat) (u0 : Int) (r0 : R32 u0) (m : mR) (hm : Cn m) (j : Nat → Int) : PP bb w D pm_227 (19, [(0, .ref 189), (1, .int (i32 (j 1)))], [.int (i32 u0)], (mhp m c, N), 0, 0) (QS (FP1 (mhp m c, N)) (rfl_sortHere_19 u0 m)) := by
  unfold rfl_sortHere_19
  show PP bb w D pm_227 (19, [(0, .ref 189), (1, .int (i32 (j 1)))], [.int (i32 u0)], (mhp (mO m [] []) c, N), 0, 0) _
  exact P_rp1 rfl r0
def rf_sortHere (m : mR) : Option Int :=
  bnd (rf_givenHere m) fun y1 =>
  if y1 < 0 then
    bnd (rf_findHere m) fun y4 =>
    if (0 : Int) ≤ y4 then
      rfl_sortHere_39 ((m.2 16) y4) m
    else
      rfl_sortHere_39 (-1) m
  else
    if (3 : Int) ≤ y1 then
      rfl_sortHere_19 5 m
    else
      rfl_sortHere_19 3 m
theorem D_sortHere (w : wX) (m : mR) (c : Nat → Option am_C) (N D : Nat) (hm : Cn m) : PC w D 227 [.ref 189] (mhp m c, N) (QS (FP1 (mhp m c, N)) (rf_sortHere m)) := by
  refine Pc_of (fun D bb => ?_) D
  unfold rf_sortHere
  show PP bb w D pm_227 (0, [(0, .ref 189)], [], (mhp (mO m [] []) c, N), 0, 0) _
  refine P_ld 1 (.ref 189) rfl (fun _ => rfl) ?_
  refine P_cp1 4 228 [.ref 189] [] rfl (fun _ => rfl) rfl (D_givenHere w m c N D hm) (fun y1 h2 => ?_)
  refine P_sto 5 [(1, .int (i32 y1)), (0, .ref 189)] rfl (fun _ => rfl) ?_
  refine P_ld 6 (.int (i32 y1)) rfl (fun _ => rfl) ?_
  refine P_ifF 20 9 rfl rfl rfl h2 rfl (fun h3 => ?_) (fun h3 => ?_)
  · skip
    refine P_ld 21 (.ref 189) rfl (fun _ => rfl) ?_
    refine P_cp1 24 229 [.ref 189] [] rfl (fun _ => rfl) rfl (D_findHere w m c N D hm) (fun y4 h5 => ?_)
    refine P_sto 25 [(2, .int (i32 y4)), (1, .int (i32 y1)), (0, .ref 189)] rfl (fun _ => rfl) ?_
    refine P_ld 26 (.int (i32 y4)) rfl (fun _ => rfl) ?_
    refine P_ifF 33 29 rfl rfl rfl h5 rfl (fun h6 => ?_) (fun h6 => ?_)
    · skip
      refine P_gf 37 (.ref 196) rfl rfl rfl rfl rfl rfl ?_
      refine P_ld 38 (.int (i32 y4)) rfl (fun _ => rfl) ?_
      refine P_iald2 39 16 (m.2 16) rfl rfl rfl h5 rfl ?_
      refine P_lv (b := [(0, .ref 189), (1, .int (i32 y1)), (2, .int (i32 y4))]) rfl rfl ⟨rfl, rfl, rfl, trivial⟩ ?_
      exact dg_sortHere_39 w c N D bb ((m.2 16) y4) (rE_i (Cn_a hm 16) rfl _) m hm (jk [(1, y1), (2, y4)])
    · skip
      refine P_ld 30 (.int (i32 (-1))) rfl (fun _ => rfl) ?_
      refine P_goto 39 rfl (fun _ => rfl) ?_
      refine P_lv (b := [(0, .ref 189), (1, .int (i32 y1)), (2, .int (i32 y4))]) rfl rfl ⟨rfl, rfl, rfl, trivial⟩ ?_
      exact dg_sortHere_39 w c N D bb (-1) (l32 (-1) rfl) m hm (jk [(1, y1), (2, y4)])
  · skip
    refine P_ld 10 (.int (i32 y1)) rfl (fun _ => rfl) ?_
    refine P_ld 11 (.int (i32 3)) rfl (fun _ => rfl) ?_
    refine P_icF 18 14 rfl rfl rfl h2 (l32 3 rfl) rfl (fun h7 => ?_) (fun h7 => ?_)
    · skip
      refine P_ld 19 (.int (i32 5)) rfl (fun _ => rfl) ?_
      refine P_lv (b := [(0, .ref 189), (1, .int (i32 y1))]) rfl rfl ⟨rfl, rfl, trivial⟩ ?_
      exact dg_sortHere_19 w c N D bb 5 (l32 5 rfl) m hm (jk [(1, y1)])
    · skip
      refine P_ld 15 (.int (i32 3)) rfl (fun _ => rfl) ?_
      refine P_goto 19 rfl (fun _ => rfl) ?_
      refine P_lv (b := [(0, .ref 189), (1, .int (i32 y1))]) rfl rfl ⟨rfl, rfl, trivial⟩ ?_
      exact dg_sortHere_19 w c N D bb 3 (l32 3 rfl) m hm (jk [(1, y1)])
def rf_enter (v1 : Int) (v2 : Int) (m : mR) : Option (Int × mR) :=
  some (0, (mO m [(13, cut ((m.1 13) + 1))] [(14, upI (m.2 14) (m.1 13) (m.1 8)), (15, upI (m.2 15) (m.1 13) (m.1 9)), (16, upI (m.2 16) (m.1 13) v1), (17, upI (m.2 17) (m.1 13) v2)]))
theorem D_enter (w : wX) (m : mR) (c : Nat → Option am_C) (N D : Nat) (hm : Cn m) (v1 : Int) (v2 : Int) (q1 : R32 v1) (q2 : R32 v2) : PC w D 231 [.ref 189, .int (i32 v1), .int (i32 v2)] (mhp m c, N) (QS (FR0 c N) (rf_enter v1 v2 m)) := by
  refine Pc_of (fun D bb => ?_) D
  unfold rf_enter
  show PP bb w D pm_231 (0, [(0, .ref 189), (1, .int (i32 v1)), (2, .int (i32 v2))], [], (mhp (mO m [] []) c, N), 0, 0) _
  refine P_gf 4 (.ref 194) rfl rfl rfl rfl rfl rfl ?_
  refine P_gf 8 (.int (i32 (m.1 13))) rfl rfl rfl rfl rfl rfl ?_
  refine P_gf 12 (.int (i32 (m.1 8))) rfl rfl rfl rfl rfl rfl ?_
  refine P_iast2 (a' := [(14, upI (m.2 14) (m.1 13) (m.1 8))]) 13 14 (m.2 14) rfl rfl rfl (Cn_i hm 13 rfl) rfl rfl ?_
  refine P_gf 17 (.ref 195) rfl rfl rfl rfl rfl rfl ?_
  refine P_gf 21 (.int (i32 (m.1 13))) rfl rfl rfl rfl rfl rfl ?_
  refine P_gf 25 (.int (i32 (m.1 9))) rfl rfl rfl rfl rfl rfl ?_
  refine P_iast2 (a' := [(14, upI (m.2 14) (m.1 13) (m.1 8)), (15, upI (m.2 15) (m.1 13) (m.1 9))]) 26 15 (m.2 15) rfl rfl rfl (Cn_i hm 13 rfl) rfl rfl ?_
  refine P_gf 30 (.ref 196) rfl rfl rfl rfl rfl rfl ?_
  refine P_gf 34 (.int (i32 (m.1 13))) rfl rfl rfl rfl rfl rfl ?_
  refine P_ld 35 (.int (i32 v1)) rfl (fun _ => rfl) ?_
  refine P_iast2 (a' := [(14, upI (m.2 14) (m.1 13) (m.1 8)), (15, upI (m.2 15) (m.1 13) (m.1 9)), (16, upI (m.2 16) (m.1 13) v1)]) 36 16 (m.2 16) rfl rfl rfl (Cn_i hm 13 rfl) rfl rfl ?_
  refine P_gf 40 (.ref 197) rfl rfl rfl rfl rfl rfl ?_
  refine P_gf 44 (.int (i32 (m.1 13))) rfl rfl rfl rfl rfl rfl ?_
  refine P_ld 45 (.int (i32 v2)) rfl (fun _ => rfl) ?_
  refine P_iast2 (a' := [(14, upI (m.2 14) (m.1 13) (m.1 8)), (15, upI (m.2 15) (m.1 13) (m.1 9)), (16, upI (m.2 16) (m.1 13) v1), (17, upI (m.2 17) (m.1 13) v2)]) 46 17 (m.2 17) rfl rfl rfl (Cn_i hm 13 rfl) rfl rfl ?_
  refine P_ld 47 (.ref 189) rfl (fun _ => rfl) ?_
  refine P_ld 48 (.ref 189) rfl (fun _ => rfl) ?_
  refine P_gf1 51 (.int (i32 (m.1 13))) rfl rfl rfl rfl ?_
  refine P_ld 52 (.int (i32 1)) rfl (fun _ => rfl) ?_
  refine P_op 53 (cut ((m.1 13) + 1)) _ rfl (fun _ => rfl) o_add ?_
  refine P_pf (l' := [(13, cut ((m.1 13) + 1))]) 56 (cut ((m.1 13) + 1)) rfl rfl rfl rfl rfl rfl ?_
  exact P_re0 rfl rfl (Cn_mO hm ⟨(rV_i rfl cut_r), trivial⟩ ⟨(rE_ui (Cn_a hm 14) rfl (Cn_i hm 8 rfl)), (rE_ui (Cn_a hm 15) rfl (Cn_i hm 9 rfl)), (rE_ui (Cn_a hm 16) rfl q1), (rE_ui (Cn_a hm 17) rfl q2), trivial⟩)
def rfl_newName_73 (m : mR) : Option (Int × mR) :=
  bnd (rf_next m) fun y1 =>
  some (1, y1.2)
theorem dg_newName_73 (w : wX) (c : Nat → Option am_C) (N D : Nat) (bb : Nat) (m : mR) (hm : Cn m) (j : Nat → Int) : PP bb w D pm_225 (73, [(0, .ref 189), (1, .int (i32 (j 1))), (2, .int (i32 (j 2))), (3, .int (i32 (j 3)))], [], (mhp m c, N), 0, 0) (QS (FR1 c N) (rfl_newName_73 m)) := by
  unfold rfl_newName_73
  show PP bb w D pm_225 (73, [(0, .ref 189), (1, .int (i32 (j 1))), (2, .int (i32 (j 2))), (3, .int (i32 (j 3)))], [], (mhp (mO m [] []) c, N), 0, 0) _
  refine P_ld 74 (.ref 189) rfl (fun _ => rfl) ?_
  refine P_ca0 77 212 [.ref 189] [] rfl (fun _ => rfl) rfl (D_next w m c N D hm) (fun y1 n3 => ?_)
  refine P_ld 78 (.int (i32 1)) rfl (fun _ => rfl) ?_
  exact P_re1 rfl (l32 1 rfl) n3
def rfl_newName_58 (v1 : Int) (v2 : Int) (m : mR) : Option (Int × mR) :=
  if m.1 10 ≤ 0 then
    bnd (rf_enter v1 v2 m) fun y5 =>
    rfl_newName_73 y5.2
  else
    some (0, m)
theorem dg_newName_58 (w : wX) (c : Nat → Option am_C) (N D : Nat) (bb : Nat) (v1 : Int) (v2 : Int) (q1 : R32 v1) (q2 : R32 v2) (m : mR) (hm : Cn m) (j : Nat → Int) : PP bb w D pm_225 (58, [(0, .ref 189), (1, .int (i32 v1)), (2, .int (i32 v2)), (3, .int (i32 (j 3)))], [], (mhp m c, N), 0, 0) (QS (FR1 c N) (rfl_newName_58 v1 v2 m)) := by
  unfold rfl_newName_58
  show PP bb w D pm_225 (58, [(0, .ref 189), (1, .int (i32 v1)), (2, .int (i32 v2)), (3, .int (i32 (j 3)))], [], (mhp (mO m [] []) c, N), 0, 0) _
  refine P_gf 62 (.int (i32 (m.1 10))) rfl rfl rfl rfl rfl rfl ?_
  refine P_ifF 67 65 rfl rfl rfl (Cn_i hm 10 rfl) rfl (fun h4 => ?_) (fun h4 => ?_)
  · skip
    refine P_ld 68 (.ref 189) rfl (fun _ => rfl) ?_
    refine P_ld 69 (.int (i32 v1)) rfl (fun _ => rfl) ?_
    refine P_ld 70 (.int (i32 v2)) rfl (fun _ => rfl) ?_
    refine P_ca0 73 231 [.ref 189, .int (i32 v1), .int (i32 v2)] [] rfl (fun _ => rfl) rfl (D_enter w m c N D hm v1 v2 q1 q2) (fun y5 n7 => ?_)
    exact dg_newName_73 w c N D bb y5.2 n7 (jk [(1, v1), (2, v2), (3, j 3)])
  · skip
    refine P_ld 66 (.int (i32 0)) rfl (fun _ => rfl) ?_
    exact P_re1 rfl (l32 0 rfl) hm
def rf_newName (v1 : Int) (v2 : Int) (v3 : Int) (m : mR) : Option (Int × mR) :=
  if m.1 10 ≤ 0 then
    if m.1 7 = 1 then
      if v2 = v3 then
        bnd (rf_wrong 4 (m.1 8) m) fun y17 =>
        rfl_newName_58 v1 v2 y17.2
      else
        bnd (rf_sortHere m) fun y11 =>
        if y11 = (-1) then
          rfl_newName_58 v1 v2 m
        else
          bnd (rf_wrong 3 (m.1 8) m) fun y14 =>
          rfl_newName_58 v1 v2 y14.2
    else
      bnd (rf_bad m) fun y20 =>
      rfl_newName_58 v1 v2 y20.2
  else
    some (0, m)
theorem D_newName (w : wX) (m : mR) (c : Nat → Option am_C) (N D : Nat) (hm : Cn m) (v1 : Int) (v2 : Int) (v3 : Int) (q1 : R32 v1) (q2 : R32 v2) (q3 : R32 v3) : PC w D 225 [.ref 189, .int (i32 v1), .int (i32 v2), .int (i32 v3)] (mhp m c, N) (QS (FR1 c N) (rf_newName v1 v2 v3 m)) := by
  refine Pc_of (fun D bb => ?_) D
  unfold rf_newName
  show PP bb w D pm_225 (0, [(0, .ref 189), (1, .int (i32 v1)), (2, .int (i32 v2)), (3, .int (i32 v3))], [], (mhp (mO m [] []) c, N), 0, 0) _
  refine P_gf 4 (.int (i32 (m.1 10))) rfl rfl rfl rfl rfl rfl ?_
  refine P_ifF 9 7 rfl rfl rfl (Cn_i hm 10 rfl) rfl (fun h8 => ?_) (fun h8 => ?_)
  · skip
    refine P_gf 13 (.int (i32 (m.1 7))) rfl rfl rfl rfl rfl rfl ?_
    refine P_ld 14 (.int (i32 1)) rfl (fun _ => rfl) ?_
    refine P_icF 24 17 rfl rfl rfl (Cn_i hm 7 rfl) (l32 1 rfl) rfl (fun h9 => ?_) (fun h9 => ?_)
    · skip
      refine P_ld 25 (.int (i32 v2)) rfl (fun _ => rfl) ?_
      refine P_ld 26 (.int (i32 v3)) rfl (fun _ => rfl) ?_
      refine P_icE 41 29 rfl rfl rfl q2 q3 rfl (fun h10 => ?_) (fun h10 => ?_)
      · skip
        refine P_ld 30 (.ref 189) rfl (fun _ => rfl) ?_
        refine P_ld 31 (.int (i32 4)) rfl (fun _ => rfl) ?_
        refine P_gf 35 (.int (i32 (m.1 8))) rfl rfl rfl rfl rfl rfl ?_
        refine P_ca0 38 222 [.ref 189, .int (i32 4), .int (i32 (m.1 8))] [] rfl (fun _ => rfl) rfl (D_wrong w m c N D hm 4 (m.1 8) (l32 4 rfl) (Cn_i hm 8 rfl)) (fun y17 n19 => ?_)
        refine P_goto 58 rfl (fun _ => rfl) ?_
        exact dg_newName_58 w c N D bb v1 v2 q1 q2 y17.2 n19 (jk [(3, v3)])
      · skip
        refine P_ld 42 (.ref 189) rfl (fun _ => rfl) ?_
        refine P_cp1 45 227 [.ref 189] [] rfl (fun _ => rfl) rfl (D_sortHere w m c N D hm) (fun y11 h12 => ?_)
        refine P_ld 46 (.int (i32 (-1))) rfl (fun _ => rfl) ?_
        refine P_icF 58 49 rfl rfl rfl h12 (l32 (-1) rfl) rfl (fun h13 => ?_) (fun h13 => ?_)
        · skip
          exact dg_newName_58 w c N D bb v1 v2 q1 q2 m hm (jk [(3, v3)])
        · skip
          refine P_ld 50 (.ref 189) rfl (fun _ => rfl) ?_
          refine P_ld 51 (.int (i32 3)) rfl (fun _ => rfl) ?_
          refine P_gf 55 (.int (i32 (m.1 8))) rfl rfl rfl rfl rfl rfl ?_
          refine P_ca0 58 222 [.ref 189, .int (i32 3), .int (i32 (m.1 8))] [] rfl (fun _ => rfl) rfl (D_wrong w m c N D hm 3 (m.1 8) (l32 3 rfl) (Cn_i hm 8 rfl)) (fun y14 n16 => ?_)
          exact dg_newName_58 w c N D bb v1 v2 q1 q2 y14.2 n16 (jk [(3, v3)])
    · skip
      refine P_ld 18 (.ref 189) rfl (fun _ => rfl) ?_
      refine P_ca0 21 226 [.ref 189] [] rfl (fun _ => rfl) rfl (D_bad w m c N D hm) (fun y20 n22 => ?_)
      refine P_goto 58 rfl (fun _ => rfl) ?_
      exact dg_newName_58 w c N D bb v1 v2 q1 q2 y20.2 n22 (jk [(3, v3)])
  · skip
    refine P_ld 8 (.int (i32 0)) rfl (fun _ => rfl) ?_
    exact P_re1 rfl (l32 0 rfl) hm
def rf_need (v1 : Int) (m : mR) : Option (Int × mR) :=
  if m.1 10 ≤ 0 then
    if m.1 7 = v1 then
      bnd (rf_next m) fun y6 =>
      some (0, y6.2)
    else
      bnd (rf_bad m) fun y3 =>
      some (0, y3.2)
  else
    some (0, m)
theorem D_need (w : wX) (m : mR) (c : Nat → Option am_C) (N D : Nat) (hm : Cn m) (v1 : Int) (q1 : R32 v1) : PC w D 232 [.ref 189, .int (i32 v1)] (mhp m c, N) (QS (FR0 c N) (rf_need v1 m)) := by
  refine Pc_of (fun D bb => ?_) D
  unfold rf_need
  show PP bb w D pm_232 (0, [(0, .ref 189), (1, .int (i32 v1))], [], (mhp (mO m [] []) c, N), 0, 0) _
  refine P_gf 4 (.int (i32 (m.1 10))) rfl rfl rfl rfl rfl rfl ?_
  refine P_ifF 8 7 rfl rfl rfl (Cn_i hm 10 rfl) rfl (fun h1 => ?_) (fun h1 => ?_)
  · skip
    refine P_gf 12 (.int (i32 (m.1 7))) rfl rfl rfl rfl rfl rfl ?_
    refine P_ld 13 (.int (i32 v1)) rfl (fun _ => rfl) ?_
    refine P_icE 23 16 rfl rfl rfl (Cn_i hm 7 rfl) q1 rfl (fun h2 => ?_) (fun h2 => ?_)
    · skip
      refine P_ld 17 (.ref 189) rfl (fun _ => rfl) ?_
      refine P_ca0 20 212 [.ref 189] [] rfl (fun _ => rfl) rfl (D_next w m c N D hm) (fun y6 n8 => ?_)
      refine P_goto 27 rfl (fun _ => rfl) ?_
      exact P_re0 rfl rfl n8
    · skip
      refine P_ld 24 (.ref 189) rfl (fun _ => rfl) ?_
      refine P_ca0 27 226 [.ref 189] [] rfl (fun _ => rfl) rfl (D_bad w m c N D hm) (fun y3 n5 => ?_)
      exact P_re0 rfl rfl n5
  · skip
    exact P_re0 rfl rfl hm
def rfl_number_53 (v1 : Int) (m : mR) : Option (Int × mR) :=
  if m.1 10 ≤ 0 then
    bnd (rf_next m) fun y2 =>
    some (cut (m.1 12), y2.2)
  else
    some (v1, m)
theorem dg_number_53 (w : wX) (c : Nat → Option am_C) (N D : Nat) (bb : Nat) (v1 : Int) (q1 : R32 v1) (m : mR) (hm : Cn m) (j : Nat → Int) : PP bb w D pm_234 (53, [(0, .ref 189), (1, .int (i32 v1)), (2, .int (i32 (j 2)))], [], (mhp m c, N), 0, 0) (QS (FR1 c N) (rfl_number_53 v1 m)) := by
  unfold rfl_number_53
  show PP bb w D pm_234 (53, [(0, .ref 189), (1, .int (i32 v1)), (2, .int (i32 (j 2)))], [], (mhp (mO m [] []) c, N), 0, 0) _
  refine P_gf 57 (.int (i32 (m.1 10))) rfl rfl rfl rfl rfl rfl ?_
  refine P_ifF 62 60 rfl rfl rfl (Cn_i hm 10 rfl) rfl (fun h1 => ?_) (fun h1 => ?_)
  · skip
    refine P_gf 66 (.long (i64 (m.1 12))) rfl rfl rfl rfl rfl rfl ?_
    refine P_op 67 (cut (m.1 12)) _ rfl (fun _ => rfl) o_l2i ?_
    refine P_sto 68 [(3, .int (i32 (cut (m.1 12)))), (0, .ref 189), (1, .int (i32 v1)), (2, .int (i32 (j 2)))] rfl (fun _ => rfl) ?_
    refine P_ld 69 (.ref 189) rfl (fun _ => rfl) ?_
    refine P_ca0 72 212 [.ref 189] [] rfl (fun _ => rfl) rfl (D_next w m c N D hm) (fun y2 n4 => ?_)
    refine P_ld 73 (.int (i32 (cut (m.1 12)))) rfl (fun _ => rfl) ?_
    exact P_re1 rfl cut_r n4
  · skip
    refine P_ld 61 (.int (i32 v1)) rfl (fun _ => rfl) ?_
    exact P_re1 rfl q1 hm
def rfl_number_44 (v1 : Int) (m : mR) : Option (Int × mR) :=
  bnd (rf_wrong 5 (m.1 8) m) fun y5 =>
  rfl_number_53 v1 y5.2
theorem dg_number_44 (w : wX) (c : Nat → Option am_C) (N D : Nat) (bb : Nat) (v1 : Int) (q1 : R32 v1) (m : mR) (hm : Cn m) (j : Nat → Int) : PP bb w D pm_234 (44, [(0, .ref 189), (1, .int (i32 v1)), (2, .int (i32 (j 2)))], [], (mhp m c, N), 0, 0) (QS (FR1 c N) (rfl_number_44 v1 m)) := by
  unfold rfl_number_44
  show PP bb w D pm_234 (44, [(0, .ref 189), (1, .int (i32 v1)), (2, .int (i32 (j 2)))], [], (mhp (mO m [] []) c, N), 0, 0) _
  refine P_ld 45 (.ref 189) rfl (fun _ => rfl) ?_
  refine P_ld 46 (.int (i32 5)) rfl (fun _ => rfl) ?_
  refine P_gf 50 (.int (i32 (m.1 8))) rfl rfl rfl rfl rfl rfl ?_
  refine P_ca0 53 222 [.ref 189, .int (i32 5), .int (i32 (m.1 8))] [] rfl (fun _ => rfl) rfl (D_wrong w m c N D hm 5 (m.1 8) (l32 5 rfl) (Cn_i hm 8 rfl)) (fun y5 n7 => ?_)
  exact dg_number_53 w c N D bb v1 q1 y5.2 n7 (jk [(2, j 2)])
def rf_number (v1 : Int) (v2 : Int) (m : mR) : Option (Int × mR) :=
  if m.1 10 ≤ 0 then
    if m.1 7 = 2 then
      if cmp64 (m.1 12) v1 < 0 then
        rfl_number_44 v1 m
      else
        if cmp64 (m.1 12) v2 ≤ 0 then
          rfl_number_53 v1 m
        else
          rfl_number_44 v1 m
    else
      bnd (rf_bad m) fun y12 =>
      rfl_number_53 v1 y12.2
  else
    some (v1, m)
theorem D_number (w : wX) (m : mR) (c : Nat → Option am_C) (N D : Nat) (hm : Cn m) (v1 : Int) (v2 : Int) (q1 : R32 v1) (q2 : R32 v2) : PC w D 234 [.ref 189, .int (i32 v1), .int (i32 v2)] (mhp m c, N) (QS (FR1 c N) (rf_number v1 v2 m)) := by
  refine Pc_of (fun D bb => ?_) D
  unfold rf_number
  show PP bb w D pm_234 (0, [(0, .ref 189), (1, .int (i32 v1)), (2, .int (i32 v2))], [], (mhp (mO m [] []) c, N), 0, 0) _
  refine P_gf 4 (.int (i32 (m.1 10))) rfl rfl rfl rfl rfl rfl ?_
  refine P_ifF 9 7 rfl rfl rfl (Cn_i hm 10 rfl) rfl (fun h8 => ?_) (fun h8 => ?_)
  · skip
    refine P_gf 13 (.int (i32 (m.1 7))) rfl rfl rfl rfl rfl rfl ?_
    refine P_ld 14 (.int (i32 2)) rfl (fun _ => rfl) ?_
    refine P_icF 24 17 rfl rfl rfl (Cn_i hm 7 rfl) (l32 2 rfl) rfl (fun h9 => ?_) (fun h9 => ?_)
    · skip
      refine P_gf 28 (.long (i64 (m.1 12))) rfl rfl rfl rfl rfl rfl ?_
      refine P_ld 29 (.int (i32 v1)) rfl (fun _ => rfl) ?_
      refine P_opl 30 v1 _ rfl (fun _ => rfl) (o_i2l q1) ?_
      refine P_op 31 (cmp64 (m.1 12) v1) _ rfl (fun _ => rfl) (o_cmp (Cn_l hm 12 rfl) (R32_64 q1)) ?_
      refine P_ifF 44 34 rfl rfl rfl cmp64_r rfl (fun h10 => ?_) (fun h10 => ?_)
      · skip
        exact dg_number_44 w c N D bb v1 q1 m hm (jk [(2, v2)])
      · skip
        refine P_gf 38 (.long (i64 (m.1 12))) rfl rfl rfl rfl rfl rfl ?_
        refine P_ld 39 (.int (i32 v2)) rfl (fun _ => rfl) ?_
        refine P_opl 40 v2 _ rfl (fun _ => rfl) (o_i2l q2) ?_
        refine P_op 41 (cmp64 (m.1 12) v2) _ rfl (fun _ => rfl) (o_cmp (Cn_l hm 12 rfl) (R32_64 q2)) ?_
        refine P_ifF 53 44 rfl rfl rfl cmp64_r rfl (fun h11 => ?_) (fun h11 => ?_)
        · skip
          exact dg_number_53 w c N D bb v1 q1 m hm (jk [(2, v2)])
        · skip
          exact dg_number_44 w c N D bb v1 q1 m hm (jk [(2, v2)])
    · skip
      refine P_ld 18 (.ref 189) rfl (fun _ => rfl) ?_
      refine P_ca0 21 226 [.ref 189] [] rfl (fun _ => rfl) rfl (D_bad w m c N D hm) (fun y12 n14 => ?_)
      refine P_goto 53 rfl (fun _ => rfl) ?_
      exact dg_number_53 w c N D bb v1 q1 y12.2 n14 (jk [(2, v2)])
  · skip
    refine P_ld 8 (.int (i32 v1)) rfl (fun _ => rfl) ?_
    exact P_re1 rfl q1 hm
def cs_takeFieldOf_60 (s : Int × mR) : Prop := R32 s.1 ∧ Cn s.2
def cx_takeFieldOf_60 : (mR) → Prop := (fun (e : mR) => Cn e)
def hd_takeFieldOf_60 (c : Nat → Option am_C) (N : Nat) (v1 : Int) (v2 : Int) (s : Int × mR) (j : Nat → Int) : ag_St af_T := (60, [(0, .ref 189), (1, .int (i32 v1)), (2, .int (i32 v2)), (3, .int (i32 s.1))], [], (mhp s.2 c, N), 0, 0)
def ex_takeFieldOf_60 (c : Nat → Option am_C) (N : Nat) (v1 : Int) (v2 : Int) : (mR) → (Nat → Int) → ag_St af_T := (fun (e : mR) (j : Nat → Int) => ((106, [(0, .ref 189), (1, .int (i32 v1)), (2, .int (i32 v2)), (3, .int (i32 (j 3)))], [], (mhp e c, N), 0, 0) : ag_St af_T))
def rfl_takeFieldOf_163 (v1 : Int) (v2 : Int) (m : mR) : Option (Int × mR) :=
  some (0, (mO m [] [(29, upI (m.2 29) v1 (cut (((m.2 29) v1) + 1))), (30, upI (m.2 30) v1 (cut (((m.2 30) v1) + ((m.2 33) v2))))]))
theorem dg_takeFieldOf_163 (w : wX) (c : Nat → Option am_C) (N D : Nat) (bb : Nat) (v1 : Int) (v2 : Int) (q1 : R32 v1) (q2 : R32 v2) (m : mR) (hm : Cn m) (j : Nat → Int) : PP bb w D pm_233 (163, [(0, .ref 189), (1, .int (i32 v1)), (2, .int (i32 v2)), (3, .int (i32 (j 3)))], [], (mhp m c, N), 0, 0) (QS (FR0 c N) (rfl_takeFieldOf_163 v1 v2 m)) := by
  unfold rfl_takeFieldOf_163
  show PP bb w D pm_233 (163, [(0, .ref 189), (1, .int (i32 v1)), (2, .int (i32 v2)), (3, .int (i32 (j 3)))], [], (mhp (mO m [] []) c, N), 0, 0) _
  refine P_gf 167 (.ref 199) rfl rfl rfl rfl rfl rfl ?_
  refine P_ld 168 (.int (i32 v1)) rfl (fun _ => rfl) ?_
  refine P_dup2 169 rfl (fun _ => rfl) ?_
  refine P_iald2 170 29 (m.2 29) rfl rfl rfl q1 rfl ?_
  refine P_ld 171 (.int (i32 1)) rfl (fun _ => rfl) ?_
  refine P_op 172 (cut (((m.2 29) v1) + 1)) _ rfl (fun _ => rfl) o_add ?_
  refine P_iast2 (a' := [(29, upI (m.2 29) v1 (cut (((m.2 29) v1) + 1)))]) 173 29 (m.2 29) rfl rfl rfl q1 rfl rfl ?_
  refine P_gf 177 (.ref 200) rfl rfl rfl rfl rfl rfl ?_
  refine P_ld 178 (.int (i32 v1)) rfl (fun _ => rfl) ?_
  refine P_dup2 179 rfl (fun _ => rfl) ?_
  refine P_iald2 180 30 (m.2 30) rfl rfl rfl q1 rfl ?_
  refine P_gf 184 (.ref 203) rfl rfl rfl rfl rfl rfl ?_
  refine P_ld 185 (.int (i32 v2)) rfl (fun _ => rfl) ?_
  refine P_iald2 186 33 (m.2 33) rfl rfl rfl q2 rfl ?_
  refine P_op 187 (cut (((m.2 30) v1) + ((m.2 33) v2))) _ rfl (fun _ => rfl) o_add ?_
  refine P_iast2 (a' := [(29, upI (m.2 29) v1 (cut (((m.2 29) v1) + 1))), (30, upI (m.2 30) v1 (cut (((m.2 30) v1) + ((m.2 33) v2))))]) 188 30 (m.2 30) rfl rfl rfl q1 rfl rfl ?_
  exact P_re0 rfl rfl (Cn_mO hm trivial ⟨(rE_ui (Cn_a hm 29) rfl cut_r), (rE_ui (Cn_a hm 30) rfl cut_r), trivial⟩)
def rfl_takeFieldOf_156 (v1 : Int) (v2 : Int) (u1 : Int) (u2 : Int) (m : mR) : Option (Int × mR) :=
  bnd (rf_need 59 (mO m [] [(33, upI (m.2 33) u1 u2)])) fun y2 =>
  rfl_takeFieldOf_163 v1 v2 y2.2
theorem dg_takeFieldOf_156 (w : wX) (c : Nat → Option am_C) (N D : Nat) (bb : Nat) (v1 : Int) (v2 : Int) (u1 : Int) (u2 : Int) (q1 : R32 v1) (q2 : R32 v2) (r1 : R32 u1) (r2 : R32 u2) (m : mR) (hm : Cn m) (j : Nat → Int) : PP bb w D pm_233 (156, [(0, .ref 189), (1, .int (i32 v1)), (2, .int (i32 v2)), (3, .int (i32 (j 3)))], [.int (i32 u2), .int (i32 u1), .ref 203], (mhp m c, N), 0, 0) (QS (FR0 c N) (rfl_takeFieldOf_156 v1 v2 u1 u2 m)) := by
  unfold rfl_takeFieldOf_156
  show PP bb w D pm_233 (156, [(0, .ref 189), (1, .int (i32 v1)), (2, .int (i32 v2)), (3, .int (i32 (j 3)))], [.int (i32 u2), .int (i32 u1), .ref 203], (mhp (mO m [] []) c, N), 0, 0) _
  refine P_iast2 (a' := [(33, upI (m.2 33) u1 u2)]) 157 33 (m.2 33) rfl rfl rfl r1 rfl rfl ?_
  refine P_ld 158 (.ref 189) rfl (fun _ => rfl) ?_
  refine P_ld 160 (.int (i32 59)) rfl (fun _ => rfl) ?_
  refine P_ca0 163 232 [.ref 189, .int (i32 59)] [] rfl (fun _ => rfl) rfl (D_need w (mO m [] [(33, upI (m.2 33) u1 u2)]) c N D (Cn_mO hm trivial ⟨(rE_ui (Cn_a hm 33) rfl r2), trivial⟩) 59 (l32 59 rfl)) (fun y2 n4 => ?_)
  exact dg_takeFieldOf_163 w c N D bb v1 v2 q1 q2 y2.2 n4 (jk [(3, j 3)])
def rfl_takeFieldOf_144 (v1 : Int) (v2 : Int) (m : mR) : Option (Int × mR) :=
  bnd (rf_number 1 64 m) fun y5 =>
  rfl_takeFieldOf_156 v1 v2 v2 y5.1 y5.2
theorem dg_takeFieldOf_144 (w : wX) (c : Nat → Option am_C) (N D : Nat) (bb : Nat) (v1 : Int) (v2 : Int) (q1 : R32 v1) (q2 : R32 v2) (m : mR) (hm : Cn m) (j : Nat → Int) : PP bb w D pm_233 (144, [(0, .ref 189), (1, .int (i32 v1)), (2, .int (i32 v2)), (3, .int (i32 (j 3)))], [], (mhp m c, N), 0, 0) (QS (FR0 c N) (rfl_takeFieldOf_144 v1 v2 m)) := by
  unfold rfl_takeFieldOf_144
  show PP bb w D pm_233 (144, [(0, .ref 189), (1, .int (i32 v1)), (2, .int (i32 v2)), (3, .int (i32 (j 3)))], [], (mhp (mO m [] []) c, N), 0, 0) _
  refine P_gf 148 (.ref 203) rfl rfl rfl rfl rfl rfl ?_
  refine P_ld 149 (.int (i32 v2)) rfl (fun _ => rfl) ?_
  refine P_ld 150 (.ref 189) rfl (fun _ => rfl) ?_
  refine P_ld 151 (.int (i32 1)) rfl (fun _ => rfl) ?_
  refine P_ld 153 (.int (i32 64)) rfl (fun _ => rfl) ?_
  refine P_ca1 156 234 [.ref 189, .int (i32 1), .int (i32 64)] [.int (i32 v2), .ref 203] rfl (fun _ => rfl) rfl (D_number w m c N D hm 1 64 (l32 1 rfl) (l32 64 rfl)) (fun y5 h6 n7 => ?_)
  exact dg_takeFieldOf_156 w c N D bb v1 v2 v2 y5.1 q1 q2 q2 h6 y5.2 n7 (jk [(3, j 3)])
def rfl_takeFieldOf_138 (v1 : Int) (v2 : Int) (m : mR) : Option (Int × mR) :=
  bnd (rf_need 58 m) fun y8 =>
  rfl_takeFieldOf_144 v1 v2 y8.2
theorem dg_takeFieldOf_138 (w : wX) (c : Nat → Option am_C) (N D : Nat) (bb : Nat) (v1 : Int) (v2 : Int) (q1 : R32 v1) (q2 : R32 v2) (m : mR) (hm : Cn m) (j : Nat → Int) : PP bb w D pm_233 (138, [(0, .ref 189), (1, .int (i32 v1)), (2, .int (i32 v2)), (3, .int (i32 (j 3)))], [], (mhp m c, N), 0, 0) (QS (FR0 c N) (rfl_takeFieldOf_138 v1 v2 m)) := by
  unfold rfl_takeFieldOf_138
  show PP bb w D pm_233 (138, [(0, .ref 189), (1, .int (i32 v1)), (2, .int (i32 v2)), (3, .int (i32 (j 3)))], [], (mhp (mO m [] []) c, N), 0, 0) _
  refine P_ld 139 (.ref 189) rfl (fun _ => rfl) ?_
  refine P_ld 141 (.int (i32 58)) rfl (fun _ => rfl) ?_
  refine P_ca0 144 232 [.ref 189, .int (i32 58)] [] rfl (fun _ => rfl) rfl (D_need w m c N D hm 58 (l32 58 rfl)) (fun y8 n10 => ?_)
  exact dg_takeFieldOf_144 w c N D bb v1 v2 q1 q2 y8.2 n10 (jk [(3, j 3)])
def rfl_takeFieldOf_106 (v1 : Int) (v2 : Int) (m : mR) : Option (Int × mR) :=
  if m.1 10 ≤ 0 then
    bnd (rf_next (mO m [] [(31, upI (m.2 31) v2 (m.1 8)), (32, upI (m.2 32) v2 (m.1 9))])) fun y12 =>
    rfl_takeFieldOf_138 v1 v2 y12.2
  else
    some (0, m)
theorem dg_takeFieldOf_106 (w : wX) (c : Nat → Option am_C) (N D : Nat) (bb : Nat) (v1 : Int) (v2 : Int) (q1 : R32 v1) (q2 : R32 v2) (m : mR) (hm : Cn m) (j : Nat → Int) : PP bb w D pm_233 (106, [(0, .ref 189), (1, .int (i32 v1)), (2, .int (i32 v2)), (3, .int (i32 (j 3)))], [], (mhp m c, N), 0, 0) (QS (FR0 c N) (rfl_takeFieldOf_106 v1 v2 m)) := by
  unfold rfl_takeFieldOf_106
  show PP bb w D pm_233 (106, [(0, .ref 189), (1, .int (i32 v1)), (2, .int (i32 v2)), (3, .int (i32 (j 3)))], [], (mhp (mO m [] []) c, N), 0, 0) _
  refine P_gf 110 (.int (i32 (m.1 10))) rfl rfl rfl rfl rfl rfl ?_
  refine P_ifF 114 113 rfl rfl rfl (Cn_i hm 10 rfl) rfl (fun h11 => ?_) (fun h11 => ?_)
  · skip
    refine P_gf 118 (.ref 201) rfl rfl rfl rfl rfl rfl ?_
    refine P_ld 119 (.int (i32 v2)) rfl (fun _ => rfl) ?_
    refine P_gf 123 (.int (i32 (m.1 8))) rfl rfl rfl rfl rfl rfl ?_
    refine P_iast2 (a' := [(31, upI (m.2 31) v2 (m.1 8))]) 124 31 (m.2 31) rfl rfl rfl q2 rfl rfl ?_
    refine P_gf 128 (.ref 202) rfl rfl rfl rfl rfl rfl ?_
    refine P_ld 129 (.int (i32 v2)) rfl (fun _ => rfl) ?_
    refine P_gf 133 (.int (i32 (m.1 9))) rfl rfl rfl rfl rfl rfl ?_
    refine P_iast2 (a' := [(31, upI (m.2 31) v2 (m.1 8)), (32, upI (m.2 32) v2 (m.1 9))]) 134 32 (m.2 32) rfl rfl rfl q2 rfl rfl ?_
    refine P_ld 135 (.ref 189) rfl (fun _ => rfl) ?_
    refine P_ca0 138 212 [.ref 189] [] rfl (fun _ => rfl) rfl (D_next w (mO m [] [(31, upI (m.2 31) v2 (m.1 8)), (32, upI (m.2 32) v2 (m.1 9))]) c N D (Cn_mO hm trivial ⟨(rE_ui (Cn_a hm 31) rfl (Cn_i hm 8 rfl)), (rE_ui (Cn_a hm 32) rfl (Cn_i hm 9 rfl)), trivial⟩)) (fun y12 n14 => ?_)
    exact dg_takeFieldOf_138 w c N D bb v1 v2 q1 q2 y12.2 n14 (jk [(3, j 3)])
  · skip
    exact P_re0 rfl rfl hm
def rfl_takeFieldOf_100 (v1 : Int) (v2 : Int) (v3 : Int) (m : mR) : Option (Sum (Int × mR) (mR)) :=
  some (.inl (cut (v3 + 1), m))
theorem dg_takeFieldOf_100 (w : wX) (c : Nat → Option am_C) (N D : Nat) (bb : Nat) (v1 : Int) (v2 : Int) (v3 : Int) (q1 : R32 v1) (q2 : R32 v2) (q3 : R32 v3) (m : mR) (hm : Cn m) (j : Nat → Int) (Q2 : Sum (Int × mR) (mR) → ag_Re af_T → Prop) (H1 : ∀ s j, cs_takeFieldOf_60 s → PP bb w D pm_233 (hd_takeFieldOf_60 c N v1 v2 s j) (Q2 (.inl s))) (H2 : ∀ x j, cx_takeFieldOf_60 x → PP bb w D pm_233 (ex_takeFieldOf_60 c N v1 v2 x j) (Q2 (.inr x))) : PP bb w D pm_233 (100, [(0, .ref 189), (1, .int (i32 v1)), (2, .int (i32 v2)), (3, .int (i32 v3))], [], (mhp m c, N), 0, 0) (QS Q2 (rfl_takeFieldOf_100 v1 v2 v3 m)) := by
  unfold rfl_takeFieldOf_100
  show PP bb w D pm_233 (100, [(0, .ref 189), (1, .int (i32 v1)), (2, .int (i32 v2)), (3, .int (i32 v3))], [], (mhp (mO m [] []) c, N), 0, 0) _
  refine P_inc 103 [(3, .int (i32 (cut (v3 + 1)))), (0, .ref 189), (1, .int (i32 v1)), (2, .int (i32 v2))] rfl rfl (by decide) rfl rfl ?_
  refine P_goto 60 rfl (fun _ => rfl) ?_
  refine P_some ?_
  refine P_lv (b := [(0, .ref 189), (1, .int (i32 v1)), (2, .int (i32 v2)), (3, .int (i32 (cut (v3 + 1))))]) rfl rfl ⟨rfl, rfl, rfl, rfl, trivial⟩ ?_
  exact H1 (cut (v3 + 1), m) (jk []) ⟨cut_r, hm⟩
def rfb_takeFieldOf_60 (v1 : Int) (v2 : Int) (s : Int × mR) : Option (Sum (Int × mR) (mR)) :=
  if v2 ≤ s.1 then
    some (.inr s.2)
  else
    if s.2.1 10 = 0 then
      bnd (rf_isHere ((s.2.2 31) s.1) ((s.2.2 32) s.1) s.2) fun y18 =>
      if y18 = 0 then
        rfl_takeFieldOf_100 v1 v2 s.1 s.2
      else
        bnd (rf_wrong 3 (s.2.1 8) s.2) fun y21 =>
        rfl_takeFieldOf_100 v1 v2 s.1 y21.2
    else
      some (.inr s.2)
theorem dh_takeFieldOf_60 (w : wX) (c : Nat → Option am_C) (N D : Nat) (v1 : Int) (v2 : Int) (q1 : R32 v1) (q2 : R32 v2) (bb : Nat) (Q2 : Sum (Int × mR) (mR) → ag_Re af_T → Prop) (H1 : ∀ s j, cs_takeFieldOf_60 s → PP bb w D pm_233 (hd_takeFieldOf_60 c N v1 v2 s j) (Q2 (.inl s))) (H2 : ∀ x j, cx_takeFieldOf_60 x → PP bb w D pm_233 (ex_takeFieldOf_60 c N v1 v2 x j) (Q2 (.inr x))) (s : Int × mR) (j : Nat → Int) (hs : cs_takeFieldOf_60 s) : PP (bb + 1) w D pm_233 (hd_takeFieldOf_60 c N v1 v2 s j) (QS Q2 (rfb_takeFieldOf_60 v1 v2 s)) := by
  obtain ⟨g3, gm⟩ := hs
  unfold rfb_takeFieldOf_60
  show PP (bb + 1) w D pm_233 (60, [(0, .ref 189), (1, .int (i32 v1)), (2, .int (i32 v2)), (3, .int (i32 s.1))], [], (mhp (mO s.2 [] []) c, N), 0, 0) _
  refine P1_ld 61 (.int (i32 s.1)) rfl (fun _ => rfl) ?_
  refine P_ld 62 (.int (i32 v2)) rfl (fun _ => rfl) ?_
  refine P_icF 106 65 rfl rfl rfl g3 q2 rfl (fun h16 => ?_) (fun h16 => ?_)
  · skip
    refine P_some ?_
    exact H2 s.2 (jk [(3, s.1)]) gm
  · skip
    refine P_gf 69 (.int (i32 (s.2.1 10))) rfl rfl rfl rfl rfl rfl ?_
    refine P_ifE 106 72 rfl rfl rfl (Cn_i gm 10 rfl) rfl (fun h17 => ?_) (fun h17 => ?_)
    · skip
      refine P_ld 73 (.ref 189) rfl (fun _ => rfl) ?_
      refine P_gf 77 (.ref 201) rfl rfl rfl rfl rfl rfl ?_
      refine P_ld 78 (.int (i32 s.1)) rfl (fun _ => rfl) ?_
      refine P_iald2 79 31 (s.2.2 31) rfl rfl rfl g3 rfl ?_
      refine P_gf 83 (.ref 202) rfl rfl rfl rfl rfl rfl ?_
      refine P_ld 84 (.int (i32 s.1)) rfl (fun _ => rfl) ?_
      refine P_iald2 85 32 (s.2.2 32) rfl rfl rfl g3 rfl ?_
      refine P_cp1 88 230 [.ref 189, .int (i32 ((s.2.2 31) s.1)), .int (i32 ((s.2.2 32) s.1))] [] rfl (fun _ => rfl) rfl (D_isHere w s.2 c N D gm ((s.2.2 31) s.1) ((s.2.2 32) s.1) (rE_i (Cn_a gm 31) rfl _) (rE_i (Cn_a gm 32) rfl _)) (fun y18 h19 => ?_)
      refine P_ifF 100 91 rfl rfl rfl h19 rfl (fun h20 => ?_) (fun h20 => ?_)
      · skip
        exact dg_takeFieldOf_100 w c N D bb v1 v2 s.1 q1 q2 g3 s.2 gm (jk []) Q2 H1 H2
      · skip
        refine P_ld 92 (.ref 189) rfl (fun _ => rfl) ?_
        refine P_ld 93 (.int (i32 3)) rfl (fun _ => rfl) ?_
        refine P_gf 97 (.int (i32 (s.2.1 8))) rfl rfl rfl rfl rfl rfl ?_
        refine P_ca0 100 222 [.ref 189, .int (i32 3), .int (i32 (s.2.1 8))] [] rfl (fun _ => rfl) rfl (D_wrong w s.2 c N D gm 3 (s.2.1 8) (l32 3 rfl) (Cn_i gm 8 rfl)) (fun y21 n23 => ?_)
        exact dg_takeFieldOf_100 w c N D bb v1 v2 s.1 q1 q2 g3 y21.2 n23 (jk []) Q2 H1 H2
    · skip
      refine P_some ?_
      exact H2 s.2 (jk [(3, s.1)]) gm
def rfl_takeFieldOf_55 (v1 : Int) (v2 : Int) (m : mR) : Option (Int × mR) :=
  bnd (whl (rfb_takeFieldOf_60 v1 v2) (cut (16 * v1), m)) (fun e24 : mR =>
    rfl_takeFieldOf_106 v1 v2 e24)
theorem dg_takeFieldOf_55 (w : wX) (c : Nat → Option am_C) (N D : Nat) (bb : Nat) (v1 : Int) (v2 : Int) (q1 : R32 v1) (q2 : R32 v2) (m : mR) (hm : Cn m) (j : Nat → Int) : PP bb w D pm_233 (55, [(0, .ref 189), (1, .int (i32 v1)), (2, .int (i32 v2))], [], (mhp m c, N), 0, 0) (QS (FR0 c N) (rfl_takeFieldOf_55 v1 v2 m)) := by
  unfold rfl_takeFieldOf_55
  show PP bb w D pm_233 (55, [(0, .ref 189), (1, .int (i32 v1)), (2, .int (i32 v2))], [], (mhp (mO m [] []) c, N), 0, 0) _
  refine P_ld 57 (.int (i32 16)) rfl (fun _ => rfl) ?_
  refine P_ld 58 (.int (i32 v1)) rfl (fun _ => rfl) ?_
  refine P_op 59 (cut (16 * v1)) _ rfl (fun _ => rfl) o_mul ?_
  refine P_sto 60 [(3, .int (i32 (cut (16 * v1)))), (0, .ref 189), (1, .int (i32 v1)), (2, .int (i32 v2))] rfl (fun _ => rfl) ?_
  refine P_lv (b := [(0, .ref 189), (1, .int (i32 v1)), (2, .int (i32 v2)), (3, .int (i32 (cut (16 * v1))))]) rfl rfl ⟨rfl, rfl, rfl, rfl, trivial⟩ ?_
  refine P_bnd ?_
  refine P_whl (fun bb Q2 H1 H2 s9 j9 hs9 => dh_takeFieldOf_60 w c N D v1 v2 q1 q2 bb Q2 H1 H2 s9 j9 hs9) bb (fun e24 j q25 => ?_) (cut (16 * v1), m) (jk []) ⟨cut_r, hm⟩
  have q26 := q25
  show PP bb w D pm_233 (106, [(0, .ref 189), (1, .int (i32 v1)), (2, .int (i32 v2)), (3, .int (i32 (j 3)))], [], (mhp (mO e24 [] []) c, N), 0, 0) (QS _ (rfl_takeFieldOf_106 v1 v2 e24))
  exact dg_takeFieldOf_106 w c N D bb v1 v2 q1 q2 e24 q26 (jk [(3, j 3)])
def rf_takeFieldOf (v1 : Int) (m : mR) : Option (Int × mR) :=
  if m.1 10 ≤ 0 then
    if m.1 7 = 1 then
      if (m.2 29) v1 = 16 then
        bnd (rf_wrong 4 (m.1 8) m) fun y30 =>
        rfl_takeFieldOf_55 v1 (cut ((cut (16 * v1)) + ((m.2 29) v1))) y30.2
      else
        rfl_takeFieldOf_55 v1 (cut ((cut (16 * v1)) + ((m.2 29) v1))) m
    else
      bnd (rf_bad m) fun y33 =>
      rfl_takeFieldOf_55 v1 (cut ((cut (16 * v1)) + ((m.2 29) v1))) y33.2
  else
    some (0, m)
theorem D_takeFieldOf (w : wX) (m : mR) (c : Nat → Option am_C) (N D : Nat) (hm : Cn m) (v1 : Int) (q1 : R32 v1) : PC w D 233 [.ref 189, .int (i32 v1)] (mhp m c, N) (QS (FR0 c N) (rf_takeFieldOf v1 m)) := by
  refine Pc_of (fun D bb => ?_) D
  unfold rf_takeFieldOf
  show PP bb w D pm_233 (0, [(0, .ref 189), (1, .int (i32 v1))], [], (mhp (mO m [] []) c, N), 0, 0) _
  refine P_gf 4 (.int (i32 (m.1 10))) rfl rfl rfl rfl rfl rfl ?_
  refine P_ifF 8 7 rfl rfl rfl (Cn_i hm 10 rfl) rfl (fun h27 => ?_) (fun h27 => ?_)
  · skip
    refine P_ld 10 (.int (i32 16)) rfl (fun _ => rfl) ?_
    refine P_ld 11 (.int (i32 v1)) rfl (fun _ => rfl) ?_
    refine P_op 12 (cut (16 * v1)) _ rfl (fun _ => rfl) o_mul ?_
    refine P_gf 16 (.ref 199) rfl rfl rfl rfl rfl rfl ?_
    refine P_ld 17 (.int (i32 v1)) rfl (fun _ => rfl) ?_
    refine P_iald2 18 29 (m.2 29) rfl rfl rfl q1 rfl ?_
    refine P_op 19 (cut ((cut (16 * v1)) + ((m.2 29) v1))) _ rfl (fun _ => rfl) o_add ?_
    refine P_sto 20 [(2, .int (i32 (cut ((cut (16 * v1)) + ((m.2 29) v1))))), (0, .ref 189), (1, .int (i32 v1))] rfl (fun _ => rfl) ?_
    refine P_gf 24 (.int (i32 (m.1 7))) rfl rfl rfl rfl rfl rfl ?_
    refine P_ld 25 (.int (i32 1)) rfl (fun _ => rfl) ?_
    refine P_icF 35 28 rfl rfl rfl (Cn_i hm 7 rfl) (l32 1 rfl) rfl (fun h28 => ?_) (fun h28 => ?_)
    · skip
      refine P_gf 39 (.ref 199) rfl rfl rfl rfl rfl rfl ?_
      refine P_ld 40 (.int (i32 v1)) rfl (fun _ => rfl) ?_
      refine P_iald2 41 29 (m.2 29) rfl rfl rfl q1 rfl ?_
      refine P_ld 43 (.int (i32 16)) rfl (fun _ => rfl) ?_
      refine P_icE 55 46 rfl rfl rfl (rE_i (Cn_a hm 29) rfl _) (l32 16 rfl) rfl (fun h29 => ?_) (fun h29 => ?_)
      · skip
        refine P_ld 47 (.ref 189) rfl (fun _ => rfl) ?_
        refine P_ld 48 (.int (i32 4)) rfl (fun _ => rfl) ?_
        refine P_gf 52 (.int (i32 (m.1 8))) rfl rfl rfl rfl rfl rfl ?_
        refine P_ca0 55 222 [.ref 189, .int (i32 4), .int (i32 (m.1 8))] [] rfl (fun _ => rfl) rfl (D_wrong w m c N D hm 4 (m.1 8) (l32 4 rfl) (Cn_i hm 8 rfl)) (fun y30 n32 => ?_)
        refine P_lv (b := [(0, .ref 189), (1, .int (i32 v1)), (2, .int (i32 (cut ((cut (16 * v1)) + ((m.2 29) v1)))))]) rfl rfl ⟨rfl, rfl, rfl, trivial⟩ ?_
        exact dg_takeFieldOf_55 w c N D bb v1 (cut ((cut (16 * v1)) + ((m.2 29) v1))) q1 cut_r y30.2 n32 (jk [])
      · skip
        refine P_lv (b := [(0, .ref 189), (1, .int (i32 v1)), (2, .int (i32 (cut ((cut (16 * v1)) + ((m.2 29) v1)))))]) rfl rfl ⟨rfl, rfl, rfl, trivial⟩ ?_
        exact dg_takeFieldOf_55 w c N D bb v1 (cut ((cut (16 * v1)) + ((m.2 29) v1))) q1 cut_r m hm (jk [])
    · skip
      refine P_ld 29 (.ref 189) rfl (fun _ => rfl) ?_
      refine P_ca0 32 226 [.ref 189] [] rfl (fun _ => rfl) rfl (D_bad w m c N D hm) (fun y33 n35 => ?_)
      refine P_goto 55 rfl (fun _ => rfl) ?_
      refine P_lv (b := [(0, .ref 189), (1, .int (i32 v1)), (2, .int (i32 (cut ((cut (16 * v1)) + ((m.2 29) v1)))))]) rfl rfl ⟨rfl, rfl, rfl, trivial⟩ ?_
      exact dg_takeFieldOf_55 w c N D bb v1 (cut ((cut (16 * v1)) + ((m.2 29) v1))) q1 cut_r y33.2 n35 (jk [])
  · skip
    exact P_re0 rfl rfl hm
def cs_takeHeader_61 (s : Int × mR) : Prop := R32 s.1 ∧ Cn s.2
def cx_takeHeader_61 : (mR) → Prop := (fun (e : mR) => Cn e)
def hd_takeHeader_61 (c : Nat → Option am_C) (N : Nat) (v1 : Int) (v2 : Int) (s : Int × mR) (j : Nat → Int) : ag_St af_T := (61, [(0, .ref 189), (1, .int (i32 v1)), (2, .int (i32 v2)), (3, .int (i32 s.1))], [], (mhp s.2 c, N), 0, 0)
def ex_takeHeader_61 (c : Nat → Option am_C) (N : Nat) (v1 : Int) (v2 : Int) : (mR) → (Nat → Int) → ag_St af_T := (fun (e : mR) (j : Nat → Int) => ((102, [(0, .ref 189), (1, .int (i32 v1)), (2, .int (i32 v2)), (3, .int (i32 (j 3)))], [], (mhp e c, N), 0, 0) : ag_St af_T))
def rfl_takeHeader_140 (m : mR) : Option (Int × mR) :=
  bnd (rf_need 125 m) fun y2 =>
  some (0, y2.2)
theorem dg_takeHeader_140 (w : wX) (c : Nat → Option am_C) (N D : Nat) (bb : Nat) (m : mR) (hm : Cn m) (j : Nat → Int) : PP bb w D pm_224 (140, [(0, .ref 189), (1, .int (i32 (j 1))), (2, .int (i32 (j 2))), (3, .int (i32 (j 3)))], [], (mhp m c, N), 0, 0) (QS (FR0 c N) (rfl_takeHeader_140 m)) := by
  unfold rfl_takeHeader_140
  show PP bb w D pm_224 (140, [(0, .ref 189), (1, .int (i32 (j 1))), (2, .int (i32 (j 2))), (3, .int (i32 (j 3)))], [], (mhp (mO m [] []) c, N), 0, 0) _
  refine P_ld 141 (.ref 189) rfl (fun _ => rfl) ?_
  refine P_ld 143 (.int (i32 125)) rfl (fun _ => rfl) ?_
  refine P_ca0 146 232 [.ref 189, .int (i32 125)] [] rfl (fun _ => rfl) rfl (D_need w m c N D hm 125 (l32 125 rfl)) (fun y2 n4 => ?_)
  exact P_re0 rfl rfl n4
def rfl_takeHeader_133 (v1 : Int) (m : mR) : Option (Int × mR) :=
  bnd (rf_wrong 8 v1 m) fun y5 =>
  rfl_takeHeader_140 y5.2
theorem dg_takeHeader_133 (w : wX) (c : Nat → Option am_C) (N D : Nat) (bb : Nat) (v1 : Int) (q1 : R32 v1) (m : mR) (hm : Cn m) (j : Nat → Int) : PP bb w D pm_224 (133, [(0, .ref 189), (1, .int (i32 v1)), (2, .int (i32 (j 2))), (3, .int (i32 (j 3)))], [], (mhp m c, N), 0, 0) (QS (FR0 c N) (rfl_takeHeader_133 v1 m)) := by
  unfold rfl_takeHeader_133
  show PP bb w D pm_224 (133, [(0, .ref 189), (1, .int (i32 v1)), (2, .int (i32 (j 2))), (3, .int (i32 (j 3)))], [], (mhp (mO m [] []) c, N), 0, 0) _
  refine P_ld 134 (.ref 189) rfl (fun _ => rfl) ?_
  refine P_ld 136 (.int (i32 8)) rfl (fun _ => rfl) ?_
  refine P_ld 137 (.int (i32 v1)) rfl (fun _ => rfl) ?_
  refine P_ca0 140 222 [.ref 189, .int (i32 8), .int (i32 v1)] [] rfl (fun _ => rfl) rfl (D_wrong w m c N D hm 8 v1 (l32 8 rfl) q1) (fun y5 n7 => ?_)
  exact dg_takeHeader_140 w c N D bb y5.2 n7 (jk [(1, v1), (2, j 2), (3, j 3)])
def rfl_takeHeader_102 (v1 : Int) (v2 : Int) (m : mR) : Option (Int × mR) :=
  if m.1 10 = 0 then
    if ((m.2 30) v2).tmod 8 = 0 then
      if (m.2 30) v2 ≤ 512 then
        rfl_takeHeader_140 m
      else
        rfl_takeHeader_133 v1 m
    else
      rfl_takeHeader_133 v1 m
  else
    rfl_takeHeader_140 m
theorem dg_takeHeader_102 (w : wX) (c : Nat → Option am_C) (N D : Nat) (bb : Nat) (v1 : Int) (v2 : Int) (q1 : R32 v1) (q2 : R32 v2) (m : mR) (hm : Cn m) (j : Nat → Int) : PP bb w D pm_224 (102, [(0, .ref 189), (1, .int (i32 v1)), (2, .int (i32 v2)), (3, .int (i32 (j 3)))], [], (mhp m c, N), 0, 0) (QS (FR0 c N) (rfl_takeHeader_102 v1 v2 m)) := by
  unfold rfl_takeHeader_102
  show PP bb w D pm_224 (102, [(0, .ref 189), (1, .int (i32 v1)), (2, .int (i32 v2)), (3, .int (i32 (j 3)))], [], (mhp (mO m [] []) c, N), 0, 0) _
  refine P_gf 106 (.int (i32 (m.1 10))) rfl rfl rfl rfl rfl rfl ?_
  refine P_ifE 140 109 rfl rfl rfl (Cn_i hm 10 rfl) rfl (fun h8 => ?_) (fun h8 => ?_)
  · skip
    refine P_gf 113 (.ref 200) rfl rfl rfl rfl rfl rfl ?_
    refine P_ld 114 (.int (i32 v2)) rfl (fun _ => rfl) ?_
    refine P_iald2 115 30 (m.2 30) rfl rfl rfl q2 rfl ?_
    refine P_ld 117 (.int (i32 8)) rfl (fun _ => rfl) ?_
    refine P_rem 118 rfl rfl (rE_i (Cn_a hm 30) rfl _) (by decide) (by decide) ?_
    refine P_ifE 133 121 rfl rfl rfl (tmod_r (rE_i (Cn_a hm 30) rfl _) (by decide) (by decide)) rfl (fun h9 => ?_) (fun h9 => ?_)
    · skip
      refine P_gf 125 (.ref 200) rfl rfl rfl rfl rfl rfl ?_
      refine P_ld 126 (.int (i32 v2)) rfl (fun _ => rfl) ?_
      refine P_iald2 127 30 (m.2 30) rfl rfl rfl q2 rfl ?_
      refine P_ld 130 (.int (i32 512)) rfl (fun _ => rfl) ?_
      refine P_icF 140 133 rfl rfl rfl (rE_i (Cn_a hm 30) rfl _) (l32 512 rfl) rfl (fun h10 => ?_) (fun h10 => ?_)
      · skip
        exact dg_takeHeader_140 w c N D bb m hm (jk [(1, v1), (2, v2), (3, j 3)])
      · skip
        exact dg_takeHeader_133 w c N D bb v1 q1 m hm (jk [(2, v2), (3, j 3)])
    · skip
      exact dg_takeHeader_133 w c N D bb v1 q1 m hm (jk [(2, v2), (3, j 3)])
  · skip
    exact dg_takeHeader_140 w c N D bb m hm (jk [(1, v1), (2, v2), (3, j 3)])
def rfl_takeHeader_98 (v1 : Int) (v2 : Int) (u0 : Int) (m : mR) : Option (Sum (Int × mR) (mR)) :=
  some (.inl (u0, m))
theorem dg_takeHeader_98 (w : wX) (c : Nat → Option am_C) (N D : Nat) (bb : Nat) (v1 : Int) (v2 : Int) (u0 : Int) (q1 : R32 v1) (q2 : R32 v2) (r0 : R32 u0) (m : mR) (hm : Cn m) (j : Nat → Int) (Q2 : Sum (Int × mR) (mR) → ag_Re af_T → Prop) (H1 : ∀ s j, cs_takeHeader_61 s → PP bb w D pm_224 (hd_takeHeader_61 c N v1 v2 s j) (Q2 (.inl s))) (H2 : ∀ x j, cx_takeHeader_61 x → PP bb w D pm_224 (ex_takeHeader_61 c N v1 v2 x j) (Q2 (.inr x))) : PP bb w D pm_224 (98, [(0, .ref 189), (1, .int (i32 v1)), (2, .int (i32 v2)), (3, .int (i32 (j 3)))], [.int (i32 u0)], (mhp m c, N), 0, 0) (QS Q2 (rfl_takeHeader_98 v1 v2 u0 m)) := by
  unfold rfl_takeHeader_98
  show PP bb w D pm_224 (98, [(0, .ref 189), (1, .int (i32 v1)), (2, .int (i32 v2)), (3, .int (i32 (j 3)))], [.int (i32 u0)], (mhp (mO m [] []) c, N), 0, 0) _
  refine P_sto 99 [(3, .int (i32 u0)), (0, .ref 189), (1, .int (i32 v1)), (2, .int (i32 v2))] rfl (fun _ => rfl) ?_
  refine P_goto 61 rfl (fun _ => rfl) ?_
  refine P_some ?_
  refine P_lv (b := [(0, .ref 189), (1, .int (i32 v1)), (2, .int (i32 v2)), (3, .int (i32 u0))]) rfl rfl ⟨rfl, rfl, rfl, rfl, trivial⟩ ?_
  exact H1 (u0, m) (jk []) ⟨r0, hm⟩
def rfl_takeHeader_97 (v1 : Int) (v2 : Int) (m : mR) : Option (Sum (Int × mR) (mR)) :=
  rfl_takeHeader_98 v1 v2 0 m
theorem dg_takeHeader_97 (w : wX) (c : Nat → Option am_C) (N D : Nat) (bb : Nat) (v1 : Int) (v2 : Int) (q1 : R32 v1) (q2 : R32 v2) (m : mR) (hm : Cn m) (j : Nat → Int) (Q2 : Sum (Int × mR) (mR) → ag_Re af_T → Prop) (H1 : ∀ s j, cs_takeHeader_61 s → PP bb w D pm_224 (hd_takeHeader_61 c N v1 v2 s j) (Q2 (.inl s))) (H2 : ∀ x j, cx_takeHeader_61 x → PP bb w D pm_224 (ex_takeHeader_61 c N v1 v2 x j) (Q2 (.inr x))) : PP bb w D pm_224 (97, [(0, .ref 189), (1, .int (i32 v1)), (2, .int (i32 v2)), (3, .int (i32 (j 3)))], [], (mhp m c, N), 0, 0) (QS Q2 (rfl_takeHeader_97 v1 v2 m)) := by
  unfold rfl_takeHeader_97
  show PP bb w D pm_224 (97, [(0, .ref 189), (1, .int (i32 v1)), (2, .int (i32 v2)), (3, .int (i32 (j 3)))], [], (mhp (mO m [] []) c, N), 0, 0) _
  refine P_ld 98 (.int (i32 0)) rfl (fun _ => rfl) ?_
  exact dg_takeHeader_98 w c N D bb v1 v2 0 q1 q2 (l32 0 rfl) m hm (jk [(3, j 3)]) Q2 H1 H2
def rfl_takeHeader_77 (v1 : Int) (v2 : Int) (m : mR) : Option (Sum (Int × mR) (mR)) :=
  if m.1 10 = 0 then
    if m.1 7 = 125 then
      rfl_takeHeader_97 v1 v2 m
    else
      rfl_takeHeader_98 v1 v2 1 m
  else
    rfl_takeHeader_97 v1 v2 m
theorem dg_takeHeader_77 (w : wX) (c : Nat → Option am_C) (N D : Nat) (bb : Nat) (v1 : Int) (v2 : Int) (q1 : R32 v1) (q2 : R32 v2) (m : mR) (hm : Cn m) (j : Nat → Int) (Q2 : Sum (Int × mR) (mR) → ag_Re af_T → Prop) (H1 : ∀ s j, cs_takeHeader_61 s → PP bb w D pm_224 (hd_takeHeader_61 c N v1 v2 s j) (Q2 (.inl s))) (H2 : ∀ x j, cx_takeHeader_61 x → PP bb w D pm_224 (ex_takeHeader_61 c N v1 v2 x j) (Q2 (.inr x))) : PP bb w D pm_224 (77, [(0, .ref 189), (1, .int (i32 v1)), (2, .int (i32 v2)), (3, .int (i32 (j 3)))], [], (mhp m c, N), 0, 0) (QS Q2 (rfl_takeHeader_77 v1 v2 m)) := by
  unfold rfl_takeHeader_77
  show PP bb w D pm_224 (77, [(0, .ref 189), (1, .int (i32 v1)), (2, .int (i32 v2)), (3, .int (i32 (j 3)))], [], (mhp (mO m [] []) c, N), 0, 0) _
  refine P_gf 81 (.int (i32 (m.1 10))) rfl rfl rfl rfl rfl rfl ?_
  refine P_ifE 97 84 rfl rfl rfl (Cn_i hm 10 rfl) rfl (fun h11 => ?_) (fun h11 => ?_)
  · skip
    refine P_gf 88 (.int (i32 (m.1 7))) rfl rfl rfl rfl rfl rfl ?_
    refine P_ld 90 (.int (i32 125)) rfl (fun _ => rfl) ?_
    refine P_icF 97 93 rfl rfl rfl (Cn_i hm 7 rfl) (l32 125 rfl) rfl (fun h12 => ?_) (fun h12 => ?_)
    · skip
      exact dg_takeHeader_97 w c N D bb v1 v2 q1 q2 m hm (jk [(3, j 3)]) Q2 H1 H2
    · skip
      refine P_ld 94 (.int (i32 1)) rfl (fun _ => rfl) ?_
      refine P_goto 98 rfl (fun _ => rfl) ?_
      exact dg_takeHeader_98 w c N D bb v1 v2 1 q1 q2 (l32 1 rfl) m hm (jk [(3, j 3)]) Q2 H1 H2
  · skip
    exact dg_takeHeader_97 w c N D bb v1 v2 q1 q2 m hm (jk [(3, j 3)]) Q2 H1 H2
def rfb_takeHeader_61 (v1 : Int) (v2 : Int) (s : Int × mR) : Option (Sum (Int × mR) (mR)) :=
  if s.1 = 0 then
    some (.inr s.2)
  else
    if s.2.1 10 = 0 then
      bnd (rf_takeFieldOf v2 s.2) fun y16 =>
      rfl_takeHeader_77 v1 v2 y16.2
    else
      some (.inr s.2)
theorem dh_takeHeader_61 (w : wX) (c : Nat → Option am_C) (N D : Nat) (v1 : Int) (v2 : Int) (q1 : R32 v1) (q2 : R32 v2) (bb : Nat) (Q2 : Sum (Int × mR) (mR) → ag_Re af_T → Prop) (H1 : ∀ s j, cs_takeHeader_61 s → PP bb w D pm_224 (hd_takeHeader_61 c N v1 v2 s j) (Q2 (.inl s))) (H2 : ∀ x j, cx_takeHeader_61 x → PP bb w D pm_224 (ex_takeHeader_61 c N v1 v2 x j) (Q2 (.inr x))) (s : Int × mR) (j : Nat → Int) (hs : cs_takeHeader_61 s) : PP (bb + 1) w D pm_224 (hd_takeHeader_61 c N v1 v2 s j) (QS Q2 (rfb_takeHeader_61 v1 v2 s)) := by
  obtain ⟨g3, gm⟩ := hs
  unfold rfb_takeHeader_61
  show PP (bb + 1) w D pm_224 (61, [(0, .ref 189), (1, .int (i32 v1)), (2, .int (i32 v2)), (3, .int (i32 s.1))], [], (mhp (mO s.2 [] []) c, N), 0, 0) _
  refine P1_ld 62 (.int (i32 s.1)) rfl (fun _ => rfl) ?_
  refine P_ifF 102 65 rfl rfl rfl g3 rfl (fun h14 => ?_) (fun h14 => ?_)
  · skip
    refine P_some ?_
    exact H2 s.2 (jk [(3, s.1)]) gm
  · skip
    refine P_gf 69 (.int (i32 (s.2.1 10))) rfl rfl rfl rfl rfl rfl ?_
    refine P_ifE 102 72 rfl rfl rfl (Cn_i gm 10 rfl) rfl (fun h15 => ?_) (fun h15 => ?_)
    · skip
      refine P_ld 73 (.ref 189) rfl (fun _ => rfl) ?_
      refine P_ld 74 (.int (i32 v2)) rfl (fun _ => rfl) ?_
      refine P_ca0 77 233 [.ref 189, .int (i32 v2)] [] rfl (fun _ => rfl) rfl (D_takeFieldOf w s.2 c N D gm v2 q2) (fun y16 n18 => ?_)
      exact dg_takeHeader_77 w c N D bb v1 v2 q1 q2 y16.2 n18 (jk [(3, s.1)]) Q2 H1 H2
    · skip
      refine P_some ?_
      exact H2 s.2 (jk [(3, s.1)]) gm
def rfl_takeHeader_59 (v1 : Int) (v2 : Int) (m : mR) : Option (Int × mR) :=
  bnd (whl (rfb_takeHeader_61 v1 v2) (1, m)) (fun e19 : mR =>
    rfl_takeHeader_102 v1 v2 e19)
theorem dg_takeHeader_59 (w : wX) (c : Nat → Option am_C) (N D : Nat) (bb : Nat) (v1 : Int) (v2 : Int) (q1 : R32 v1) (q2 : R32 v2) (m : mR) (hm : Cn m) (j : Nat → Int) : PP bb w D pm_224 (59, [(0, .ref 189), (1, .int (i32 v1)), (2, .int (i32 v2))], [], (mhp m c, N), 0, 0) (QS (FR0 c N) (rfl_takeHeader_59 v1 v2 m)) := by
  unfold rfl_takeHeader_59
  show PP bb w D pm_224 (59, [(0, .ref 189), (1, .int (i32 v1)), (2, .int (i32 v2))], [], (mhp (mO m [] []) c, N), 0, 0) _
  refine P_ld 60 (.int (i32 1)) rfl (fun _ => rfl) ?_
  refine P_sto 61 [(3, .int (i32 1)), (0, .ref 189), (1, .int (i32 v1)), (2, .int (i32 v2))] rfl (fun _ => rfl) ?_
  refine P_lv (b := [(0, .ref 189), (1, .int (i32 v1)), (2, .int (i32 v2)), (3, .int (i32 1))]) rfl rfl ⟨rfl, rfl, rfl, rfl, trivial⟩ ?_
  refine P_bnd ?_
  refine P_whl (fun bb Q2 H1 H2 s9 j9 hs9 => dh_takeHeader_61 w c N D v1 v2 q1 q2 bb Q2 H1 H2 s9 j9 hs9) bb (fun e19 j q20 => ?_) (1, m) (jk []) ⟨(l32 1 rfl), hm⟩
  have q21 := q20
  show PP bb w D pm_224 (102, [(0, .ref 189), (1, .int (i32 v1)), (2, .int (i32 v2)), (3, .int (i32 (j 3)))], [], (mhp (mO e19 [] []) c, N), 0, 0) (QS _ (rfl_takeHeader_102 v1 v2 e19))
  exact dg_takeHeader_102 w c N D bb v1 v2 q1 q2 e19 q21 (jk [(3, j 3)])
def rfl_takeHeader_20 (v1 : Int) (u0 : Int) (m : mR) : Option (Int × mR) :=
  if u0 = 0 then
    some (0, m)
  else
    bnd (rf_need 123 (mO m [(19, cut ((m.1 19) + 1))] [(29, upI (m.2 29) (m.1 19) 0), (30, upI (m.2 30) (m.1 19) 0)])) fun y23 =>
    rfl_takeHeader_59 v1 (m.1 19) y23.2
theorem dg_takeHeader_20 (w : wX) (c : Nat → Option am_C) (N D : Nat) (bb : Nat) (v1 : Int) (u0 : Int) (q1 : R32 v1) (r0 : R32 u0) (m : mR) (hm : Cn m) (j : Nat → Int) : PP bb w D pm_224 (20, [(0, .ref 189), (1, .int (i32 v1))], [.int (i32 u0)], (mhp m c, N), 0, 0) (QS (FR0 c N) (rfl_takeHeader_20 v1 u0 m)) := by
  unfold rfl_takeHeader_20
  show PP bb w D pm_224 (20, [(0, .ref 189), (1, .int (i32 v1))], [.int (i32 u0)], (mhp (mO m [] []) c, N), 0, 0) _
  refine P_ifE 24 23 rfl rfl rfl r0 rfl (fun h22 => ?_) (fun h22 => ?_)
  · skip
    exact P_re0 rfl rfl hm
  · skip
    refine P_gf 28 (.int (i32 (m.1 19))) rfl rfl rfl rfl rfl rfl ?_
    refine P_sto 29 [(2, .int (i32 (m.1 19))), (0, .ref 189), (1, .int (i32 v1))] rfl (fun _ => rfl) ?_
    refine P_ld 30 (.ref 189) rfl (fun _ => rfl) ?_
    refine P_ld 31 (.ref 189) rfl (fun _ => rfl) ?_
    refine P_gf1 34 (.int (i32 (m.1 19))) rfl rfl rfl rfl ?_
    refine P_ld 35 (.int (i32 1)) rfl (fun _ => rfl) ?_
    refine P_op 36 (cut ((m.1 19) + 1)) _ rfl (fun _ => rfl) o_add ?_
    refine P_pf (l' := [(19, cut ((m.1 19) + 1))]) 39 (cut ((m.1 19) + 1)) rfl rfl rfl rfl rfl rfl ?_
    refine P_gf 43 (.ref 199) rfl rfl rfl rfl rfl rfl ?_
    refine P_ld 44 (.int (i32 (m.1 19))) rfl (fun _ => rfl) ?_
    refine P_ld 45 (.int (i32 0)) rfl (fun _ => rfl) ?_
    refine P_iast2 (a' := [(29, upI (m.2 29) (m.1 19) 0)]) 46 29 (m.2 29) rfl rfl rfl (Cn_i hm 19 rfl) rfl rfl ?_
    refine P_gf 50 (.ref 200) rfl rfl rfl rfl rfl rfl ?_
    refine P_ld 51 (.int (i32 (m.1 19))) rfl (fun _ => rfl) ?_
    refine P_ld 52 (.int (i32 0)) rfl (fun _ => rfl) ?_
    refine P_iast2 (a' := [(29, upI (m.2 29) (m.1 19) 0), (30, upI (m.2 30) (m.1 19) 0)]) 53 30 (m.2 30) rfl rfl rfl (Cn_i hm 19 rfl) rfl rfl ?_
    refine P_ld 54 (.ref 189) rfl (fun _ => rfl) ?_
    refine P_ld 56 (.int (i32 123)) rfl (fun _ => rfl) ?_
    refine P_ca0 59 232 [.ref 189, .int (i32 123)] [] rfl (fun _ => rfl) rfl (D_need w (mO m [(19, cut ((m.1 19) + 1))] [(29, upI (m.2 29) (m.1 19) 0), (30, upI (m.2 30) (m.1 19) 0)]) c N D (Cn_mO hm ⟨(rV_i rfl cut_r), trivial⟩ ⟨(rE_ui (Cn_a hm 29) rfl (l32 0 rfl)), (rE_ui (Cn_a hm 30) rfl (l32 0 rfl)), trivial⟩) 123 (l32 123 rfl)) (fun y23 n25 => ?_)
    refine P_lv (b := [(0, .ref 189), (1, .int (i32 v1)), (2, .int (i32 (m.1 19)))]) rfl rfl ⟨rfl, rfl, rfl, trivial⟩ ?_
    exact dg_takeHeader_59 w c N D bb v1 (m.1 19) q1 (Cn_i hm 19 rfl) y23.2 n25 (jk [])
def rfl_takeHeader_4 (m : mR) : Option (Int × mR) :=
  bnd (rf_newName 1 (m.1 19) 12 m) fun y26 =>
  rfl_takeHeader_20 (m.1 8) y26.1 y26.2
theorem dg_takeHeader_4 (w : wX) (c : Nat → Option am_C) (N D : Nat) (bb : Nat) (m : mR) (hm : Cn m) (j : Nat → Int) : PP bb w D pm_224 (4, [(0, .ref 189)], [], (mhp m c, N), 0, 0) (QS (FR0 c N) (rfl_takeHeader_4 m)) := by
  unfold rfl_takeHeader_4
  show PP bb w D pm_224 (4, [(0, .ref 189)], [], (mhp (mO m [] []) c, N), 0, 0) _
  refine P_gf 8 (.int (i32 (m.1 8))) rfl rfl rfl rfl rfl rfl ?_
  refine P_sto 9 [(1, .int (i32 (m.1 8))), (0, .ref 189)] rfl (fun _ => rfl) ?_
  refine P_ld 10 (.ref 189) rfl (fun _ => rfl) ?_
  refine P_ld 11 (.int (i32 1)) rfl (fun _ => rfl) ?_
  refine P_gf 15 (.int (i32 (m.1 19))) rfl rfl rfl rfl rfl rfl ?_
  refine P_ld 17 (.int (i32 12)) rfl (fun _ => rfl) ?_
  refine P_ca1 20 225 [.ref 189, .int (i32 1), .int (i32 (m.1 19)), .int (i32 12)] [] rfl (fun _ => rfl) rfl (D_newName w m c N D hm 1 (m.1 19) 12 (l32 1 rfl) (Cn_i hm 19 rfl) (l32 12 rfl)) (fun y26 h27 n28 => ?_)
  refine P_lv (b := [(0, .ref 189), (1, .int (i32 (m.1 8)))]) rfl rfl ⟨rfl, rfl, trivial⟩ ?_
  exact dg_takeHeader_20 w c N D bb (m.1 8) y26.1 (Cn_i hm 8 rfl) h27 y26.2 n28 (jk [])
def rf_takeHeader (m : mR) : Option (Int × mR) :=
  bnd (rf_next m) fun y29 =>
  rfl_takeHeader_4 y29.2
theorem D_takeHeader (w : wX) (m : mR) (c : Nat → Option am_C) (N D : Nat) (hm : Cn m) : PC w D 224 [.ref 189] (mhp m c, N) (QS (FR0 c N) (rf_takeHeader m)) := by
  refine Pc_of (fun D bb => ?_) D
  unfold rf_takeHeader
  show PP bb w D pm_224 (0, [(0, .ref 189)], [], (mhp (mO m [] []) c, N), 0, 0) _
  refine P_ld 1 (.ref 189) rfl (fun _ => rfl) ?_
  refine P_ca0 4 212 [.ref 189] [] rfl (fun _ => rfl) rfl (D_next w m c N D hm) (fun y29 n31 => ?_)
  exact dg_takeHeader_4 w c N D bb y29.2 n31 (jk [])
def rfl_whichHere_29 (u0 : Int) (m : mR) : Option Int :=
  some u0
theorem dg_whichHere_29 (w : wX) (c : Nat → Option am_C) (N D : Nat) (bb : Nat) (u0 : Int) (r0 : R32 u0) (m : mR) (hm : Cn m) (j : Nat → Int) : PP bb w D pm_237 (29, [(0, .ref 189), (1, .int (i32 (j 1)))], [.int (i32 u0)], (mhp m c, N), 0, 0) (QS (FP1 (mhp m c, N)) (rfl_whichHere_29 u0 m)) := by
  unfold rfl_whichHere_29
  show PP bb w D pm_237 (29, [(0, .ref 189), (1, .int (i32 (j 1)))], [.int (i32 u0)], (mhp (mO m [] []) c, N), 0, 0) _
  exact P_rp1 rfl r0
def rf_whichHere (m : mR) : Option Int :=
  bnd (rf_givenHere m) fun y1 =>
  if y1 < 0 then
    bnd (rf_findHere m) fun y4 =>
    some ((m.2 17) y4)
  else
    if (3 : Int) ≤ y1 then
      if y1 = 3 then
        rfl_whichHere_29 (-1) m
      else
        rfl_whichHere_29 (-2) m
    else
      rfl_whichHere_29 y1 m
theorem D_whichHere (w : wX) (m : mR) (c : Nat → Option am_C) (N D : Nat) (hm : Cn m) : PC w D 237 [.ref 189] (mhp m c, N) (QS (FP1 (mhp m c, N)) (rf_whichHere m)) := by
  refine Pc_of (fun D bb => ?_) D
  unfold rf_whichHere
  show PP bb w D pm_237 (0, [(0, .ref 189)], [], (mhp (mO m [] []) c, N), 0, 0) _
  refine P_ld 1 (.ref 189) rfl (fun _ => rfl) ?_
  refine P_cp1 4 228 [.ref 189] [] rfl (fun _ => rfl) rfl (D_givenHere w m c N D hm) (fun y1 h2 => ?_)
  refine P_sto 5 [(1, .int (i32 y1)), (0, .ref 189)] rfl (fun _ => rfl) ?_
  refine P_ld 6 (.int (i32 y1)) rfl (fun _ => rfl) ?_
  refine P_ifF 30 9 rfl rfl rfl h2 rfl (fun h3 => ?_) (fun h3 => ?_)
  · skip
    refine P_gf 34 (.ref 197) rfl rfl rfl rfl rfl rfl ?_
    refine P_ld 35 (.ref 189) rfl (fun _ => rfl) ?_
    refine P_cp1 38 229 [.ref 189] [.ref 197] rfl (fun _ => rfl) rfl (D_findHere w m c N D hm) (fun y4 h5 => ?_)
    refine P_iald2 39 17 (m.2 17) rfl rfl rfl h5 rfl ?_
    exact P_rp1 rfl (rE_i (Cn_a hm 17) rfl _)
  · skip
    refine P_ld 10 (.int (i32 y1)) rfl (fun _ => rfl) ?_
    refine P_ld 11 (.int (i32 3)) rfl (fun _ => rfl) ?_
    refine P_icF 18 14 rfl rfl rfl h2 (l32 3 rfl) rfl (fun h6 => ?_) (fun h6 => ?_)
    · skip
      refine P_ld 19 (.int (i32 y1)) rfl (fun _ => rfl) ?_
      refine P_ld 20 (.int (i32 3)) rfl (fun _ => rfl) ?_
      refine P_icE 27 23 rfl rfl rfl h2 (l32 3 rfl) rfl (fun h7 => ?_) (fun h7 => ?_)
      · skip
        refine P_ld 24 (.int (i32 (-1))) rfl (fun _ => rfl) ?_
        refine P_goto 29 rfl (fun _ => rfl) ?_
        refine P_lv (b := [(0, .ref 189), (1, .int (i32 y1))]) rfl rfl ⟨rfl, rfl, trivial⟩ ?_
        exact dg_whichHere_29 w c N D bb (-1) (l32 (-1) rfl) m hm (jk [(1, y1)])
      · skip
        refine P_ld 29 (.int (i32 (-2))) rfl (fun _ => rfl) ?_
        refine P_lv (b := [(0, .ref 189), (1, .int (i32 y1))]) rfl rfl ⟨rfl, rfl, trivial⟩ ?_
        exact dg_whichHere_29 w c N D bb (-2) (l32 (-2) rfl) m hm (jk [(1, y1)])
    · skip
      refine P_ld 15 (.int (i32 y1)) rfl (fun _ => rfl) ?_
      refine P_goto 29 rfl (fun _ => rfl) ?_
      refine P_lv (b := [(0, .ref 189), (1, .int (i32 y1))]) rfl rfl ⟨rfl, rfl, trivial⟩ ?_
      exact dg_whichHere_29 w c N D bb y1 h2 m hm (jk [(1, y1)])
def rfl_oldName_42 (m : mR) : Option (Int × mR) :=
  if m.1 10 ≤ 0 then
    bnd (rf_whichHere m) fun y2 =>
    bnd (rf_next m) fun y4 =>
    some (y2, y4.2)
  else
    some (0, m)
theorem dg_oldName_42 (w : wX) (c : Nat → Option am_C) (N D : Nat) (bb : Nat) (m : mR) (hm : Cn m) (j : Nat → Int) : PP bb w D pm_236 (42, [(0, .ref 189), (1, .int (i32 (j 1)))], [], (mhp m c, N), 0, 0) (QS (FR1 c N) (rfl_oldName_42 m)) := by
  unfold rfl_oldName_42
  show PP bb w D pm_236 (42, [(0, .ref 189), (1, .int (i32 (j 1)))], [], (mhp (mO m [] []) c, N), 0, 0) _
  refine P_gf 46 (.int (i32 (m.1 10))) rfl rfl rfl rfl rfl rfl ?_
  refine P_ifF 51 49 rfl rfl rfl (Cn_i hm 10 rfl) rfl (fun h1 => ?_) (fun h1 => ?_)
  · skip
    refine P_ld 52 (.ref 189) rfl (fun _ => rfl) ?_
    refine P_cp1 55 237 [.ref 189] [] rfl (fun _ => rfl) rfl (D_whichHere w m c N D hm) (fun y2 h3 => ?_)
    refine P_sto 56 [(2, .int (i32 y2)), (0, .ref 189), (1, .int (i32 (j 1)))] rfl (fun _ => rfl) ?_
    refine P_ld 57 (.ref 189) rfl (fun _ => rfl) ?_
    refine P_ca0 60 212 [.ref 189] [] rfl (fun _ => rfl) rfl (D_next w m c N D hm) (fun y4 n6 => ?_)
    refine P_ld 61 (.int (i32 y2)) rfl (fun _ => rfl) ?_
    exact P_re1 rfl h3 n6
  · skip
    refine P_ld 50 (.int (i32 0)) rfl (fun _ => rfl) ?_
    exact P_re1 rfl (l32 0 rfl) hm
def rf_oldName (v1 : Int) (m : mR) : Option (Int × mR) :=
  if m.1 10 ≤ 0 then
    if m.1 7 = 1 then
      bnd (rf_sortHere m) fun y9 =>
      if y9 = v1 then
        rfl_oldName_42 m
      else
        bnd (rf_wrong 6 (m.1 8) m) fun y12 =>
        rfl_oldName_42 y12.2
    else
      bnd (rf_bad m) fun y15 =>
      rfl_oldName_42 y15.2
  else
    some (0, m)
theorem D_oldName (w : wX) (m : mR) (c : Nat → Option am_C) (N D : Nat) (hm : Cn m) (v1 : Int) (q1 : R32 v1) : PC w D 236 [.ref 189, .int (i32 v1)] (mhp m c, N) (QS (FR1 c N) (rf_oldName v1 m)) := by
  refine Pc_of (fun D bb => ?_) D
  unfold rf_oldName
  show PP bb w D pm_236 (0, [(0, .ref 189), (1, .int (i32 v1))], [], (mhp (mO m [] []) c, N), 0, 0) _
  refine P_gf 4 (.int (i32 (m.1 10))) rfl rfl rfl rfl rfl rfl ?_
  refine P_ifF 9 7 rfl rfl rfl (Cn_i hm 10 rfl) rfl (fun h7 => ?_) (fun h7 => ?_)
  · skip
    refine P_gf 13 (.int (i32 (m.1 7))) rfl rfl rfl rfl rfl rfl ?_
    refine P_ld 14 (.int (i32 1)) rfl (fun _ => rfl) ?_
    refine P_icF 24 17 rfl rfl rfl (Cn_i hm 7 rfl) (l32 1 rfl) rfl (fun h8 => ?_) (fun h8 => ?_)
    · skip
      refine P_ld 25 (.ref 189) rfl (fun _ => rfl) ?_
      refine P_cp1 28 227 [.ref 189] [] rfl (fun _ => rfl) rfl (D_sortHere w m c N D hm) (fun y9 h10 => ?_)
      refine P_ld 29 (.int (i32 v1)) rfl (fun _ => rfl) ?_
      refine P_icF 42 32 rfl rfl rfl h10 q1 rfl (fun h11 => ?_) (fun h11 => ?_)
      · skip
        exact dg_oldName_42 w c N D bb m hm (jk [(1, v1)])
      · skip
        refine P_ld 33 (.ref 189) rfl (fun _ => rfl) ?_
        refine P_ld 35 (.int (i32 6)) rfl (fun _ => rfl) ?_
        refine P_gf 39 (.int (i32 (m.1 8))) rfl rfl rfl rfl rfl rfl ?_
        refine P_ca0 42 222 [.ref 189, .int (i32 6), .int (i32 (m.1 8))] [] rfl (fun _ => rfl) rfl (D_wrong w m c N D hm 6 (m.1 8) (l32 6 rfl) (Cn_i hm 8 rfl)) (fun y12 n14 => ?_)
        exact dg_oldName_42 w c N D bb y12.2 n14 (jk [(1, v1)])
    · skip
      refine P_ld 18 (.ref 189) rfl (fun _ => rfl) ?_
      refine P_ca0 21 226 [.ref 189] [] rfl (fun _ => rfl) rfl (D_bad w m c N D hm) (fun y15 n17 => ?_)
      refine P_goto 42 rfl (fun _ => rfl) ?_
      exact dg_oldName_42 w c N D bb y15.2 n17 (jk [(1, v1)])
  · skip
    refine P_ld 8 (.int (i32 0)) rfl (fun _ => rfl) ?_
    exact P_re1 rfl (l32 0 rfl) hm
def rfl_takeUse_37 (v1 : Int) (m : mR) : Option (Int × mR) :=
  some (0, (mO m [(20, cut ((m.1 20) + 1))] [(34, upI (m.2 34) (m.1 20) v1)]))
theorem dg_takeUse_37 (w : wX) (c : Nat → Option am_C) (N D : Nat) (bb : Nat) (v1 : Int) (q1 : R32 v1) (m : mR) (hm : Cn m) (j : Nat → Int) : PP bb w D pm_235 (37, [(0, .ref 189), (1, .int (i32 v1))], [], (mhp m c, N), 0, 0) (QS (FR0 c N) (rfl_takeUse_37 v1 m)) := by
  unfold rfl_takeUse_37
  show PP bb w D pm_235 (37, [(0, .ref 189), (1, .int (i32 v1))], [], (mhp (mO m [] []) c, N), 0, 0) _
  refine P_gf 41 (.ref 204) rfl rfl rfl rfl rfl rfl ?_
  refine P_gf 45 (.int (i32 (m.1 20))) rfl rfl rfl rfl rfl rfl ?_
  refine P_ld 46 (.int (i32 v1)) rfl (fun _ => rfl) ?_
  refine P_iast2 (a' := [(34, upI (m.2 34) (m.1 20) v1)]) 47 34 (m.2 34) rfl rfl rfl (Cn_i hm 20 rfl) rfl rfl ?_
  refine P_ld 48 (.ref 189) rfl (fun _ => rfl) ?_
  refine P_ld 49 (.ref 189) rfl (fun _ => rfl) ?_
  refine P_gf1 52 (.int (i32 (m.1 20))) rfl rfl rfl rfl ?_
  refine P_ld 53 (.int (i32 1)) rfl (fun _ => rfl) ?_
  refine P_op 54 (cut ((m.1 20) + 1)) _ rfl (fun _ => rfl) o_add ?_
  refine P_pf (l' := [(20, cut ((m.1 20) + 1))]) 57 (cut ((m.1 20) + 1)) rfl rfl rfl rfl rfl rfl ?_
  exact P_re0 rfl rfl (Cn_mO hm ⟨(rV_i rfl cut_r), trivial⟩ ⟨(rE_ui (Cn_a hm 34) rfl q1), trivial⟩)
def rfl_takeUse_30 (u0 : Int) (m : mR) : Option (Int × mR) :=
  bnd (rf_need 59 m) fun y1 =>
  rfl_takeUse_37 u0 y1.2
theorem dg_takeUse_30 (w : wX) (c : Nat → Option am_C) (N D : Nat) (bb : Nat) (u0 : Int) (r0 : R32 u0) (m : mR) (hm : Cn m) (j : Nat → Int) : PP bb w D pm_235 (30, [(0, .ref 189)], [.int (i32 u0)], (mhp m c, N), 0, 0) (QS (FR0 c N) (rfl_takeUse_30 u0 m)) := by
  unfold rfl_takeUse_30
  show PP bb w D pm_235 (30, [(0, .ref 189)], [.int (i32 u0)], (mhp (mO m [] []) c, N), 0, 0) _
  refine P_sto 31 [(1, .int (i32 u0)), (0, .ref 189)] rfl (fun _ => rfl) ?_
  refine P_ld 32 (.ref 189) rfl (fun _ => rfl) ?_
  refine P_ld 34 (.int (i32 59)) rfl (fun _ => rfl) ?_
  refine P_ca0 37 232 [.ref 189, .int (i32 59)] [] rfl (fun _ => rfl) rfl (D_need w m c N D hm 59 (l32 59 rfl)) (fun y1 n3 => ?_)
  refine P_lv (b := [(0, .ref 189), (1, .int (i32 u0))]) rfl rfl ⟨rfl, rfl, trivial⟩ ?_
  exact dg_takeUse_37 w c N D bb u0 r0 y1.2 n3 (jk [])
def rfl_takeUse_25 (m : mR) : Option (Int × mR) :=
  bnd (rf_oldName 1 m) fun y4 =>
  rfl_takeUse_30 y4.1 y4.2
theorem dg_takeUse_25 (w : wX) (c : Nat → Option am_C) (N D : Nat) (bb : Nat) (m : mR) (hm : Cn m) (j : Nat → Int) : PP bb w D pm_235 (25, [(0, .ref 189)], [], (mhp m c, N), 0, 0) (QS (FR0 c N) (rfl_takeUse_25 m)) := by
  unfold rfl_takeUse_25
  show PP bb w D pm_235 (25, [(0, .ref 189)], [], (mhp (mO m [] []) c, N), 0, 0) _
  refine P_ld 26 (.ref 189) rfl (fun _ => rfl) ?_
  refine P_ld 27 (.int (i32 1)) rfl (fun _ => rfl) ?_
  refine P_ca1 30 236 [.ref 189, .int (i32 1)] [] rfl (fun _ => rfl) rfl (D_oldName w m c N D hm 1 (l32 1 rfl)) (fun y4 h5 n6 => ?_)
  exact dg_takeUse_30 w c N D bb y4.1 h5 y4.2 n6 (jk [])
def rfl_takeUse_15 (u0 : Int) (m : mR) : Option (Int × mR) :=
  if u0 = 0 then
    some (0, m)
  else
    bnd (rf_need 58 m) fun y8 =>
    rfl_takeUse_25 y8.2
theorem dg_takeUse_15 (w : wX) (c : Nat → Option am_C) (N D : Nat) (bb : Nat) (u0 : Int) (r0 : R32 u0) (m : mR) (hm : Cn m) (j : Nat → Int) : PP bb w D pm_235 (15, [(0, .ref 189)], [.int (i32 u0)], (mhp m c, N), 0, 0) (QS (FR0 c N) (rfl_takeUse_15 u0 m)) := by
  unfold rfl_takeUse_15
  show PP bb w D pm_235 (15, [(0, .ref 189)], [.int (i32 u0)], (mhp (mO m [] []) c, N), 0, 0) _
  refine P_ifE 19 18 rfl rfl rfl r0 rfl (fun h7 => ?_) (fun h7 => ?_)
  · skip
    exact P_re0 rfl rfl hm
  · skip
    refine P_ld 20 (.ref 189) rfl (fun _ => rfl) ?_
    refine P_ld 22 (.int (i32 58)) rfl (fun _ => rfl) ?_
    refine P_ca0 25 232 [.ref 189, .int (i32 58)] [] rfl (fun _ => rfl) rfl (D_need w m c N D hm 58 (l32 58 rfl)) (fun y8 n10 => ?_)
    exact dg_takeUse_25 w c N D bb y8.2 n10 (jk [])
def rfl_takeUse_4 (m : mR) : Option (Int × mR) :=
  bnd (rf_newName 2 (m.1 20) 12 m) fun y11 =>
  rfl_takeUse_15 y11.1 y11.2
theorem dg_takeUse_4 (w : wX) (c : Nat → Option am_C) (N D : Nat) (bb : Nat) (m : mR) (hm : Cn m) (j : Nat → Int) : PP bb w D pm_235 (4, [(0, .ref 189)], [], (mhp m c, N), 0, 0) (QS (FR0 c N) (rfl_takeUse_4 m)) := by
  unfold rfl_takeUse_4
  show PP bb w D pm_235 (4, [(0, .ref 189)], [], (mhp (mO m [] []) c, N), 0, 0) _
  refine P_ld 5 (.ref 189) rfl (fun _ => rfl) ?_
  refine P_ld 6 (.int (i32 2)) rfl (fun _ => rfl) ?_
  refine P_gf 10 (.int (i32 (m.1 20))) rfl rfl rfl rfl rfl rfl ?_
  refine P_ld 12 (.int (i32 12)) rfl (fun _ => rfl) ?_
  refine P_ca1 15 225 [.ref 189, .int (i32 2), .int (i32 (m.1 20)), .int (i32 12)] [] rfl (fun _ => rfl) rfl (D_newName w m c N D hm 2 (m.1 20) 12 (l32 2 rfl) (Cn_i hm 20 rfl) (l32 12 rfl)) (fun y11 h12 n13 => ?_)
  exact dg_takeUse_15 w c N D bb y11.1 h12 y11.2 n13 (jk [])
def rf_takeUse (m : mR) : Option (Int × mR) :=
  bnd (rf_next m) fun y14 =>
  rfl_takeUse_4 y14.2
theorem D_takeUse (w : wX) (m : mR) (c : Nat → Option am_C) (N D : Nat) (hm : Cn m) : PC w D 235 [.ref 189] (mhp m c, N) (QS (FR0 c N) (rf_takeUse m)) := by
  refine Pc_of (fun D bb => ?_) D
  unfold rf_takeUse
  show PP bb w D pm_235 (0, [(0, .ref 189)], [], (mhp (mO m [] []) c, N), 0, 0) _
  refine P_ld 1 (.ref 189) rfl (fun _ => rfl) ?_
  refine P_ca0 4 212 [.ref 189] [] rfl (fun _ => rfl) rfl (D_next w m c N D hm) (fun y14 n16 => ?_)
  exact dg_takeUse_4 w c N D bb y14.2 n16 (jk [])
end X26C
