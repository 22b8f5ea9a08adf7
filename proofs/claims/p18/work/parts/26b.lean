noncomputable section X26B
def rfl_isSign_131 (u0 : Int) : Option Int :=
  some u0
theorem dg_isSign_131 (w : wX) (t : af_T) (D : Nat) (bb : Nat) (u0 : Int) (r0 : R32 u0) (j : Nat → Int) : PP bb w D pm_221 (131, [(0, .int (i32 (j 0)))], [.int (i32 u0)], t, 0, 0) (QS (FP1 t) (rfl_isSign_131 u0)) := by
  unfold rfl_isSign_131
  exact P_rp1 rfl r0
def rfl_isSign_126 : Option Int :=
  rfl_isSign_131 1
theorem dg_isSign_126 (w : wX) (t : af_T) (D : Nat) (bb : Nat) (j : Nat → Int) : PP bb w D pm_221 (126, [(0, .int (i32 (j 0)))], [], t, 0, 0) (QS (FP1 t) (rfl_isSign_126)) := by
  unfold rfl_isSign_126
  refine P_ld 127 (.int (i32 1)) rfl (fun _ => rfl) ?_
  refine P_goto 131 rfl (fun _ => rfl) ?_
  exact dg_isSign_131 w t D bb 1 (l32 1 rfl) (jk [(0, j 0)])
def rf_isSign (v0 : Int) : Option Int :=
  if v0 = 123 then
    rfl_isSign_126
  else
    if v0 = 125 then
      rfl_isSign_126
    else
      if v0 = 40 then
        rfl_isSign_126
      else
        if v0 = 41 then
          rfl_isSign_126
        else
          if v0 = 91 then
            rfl_isSign_126
          else
            if v0 = 93 then
              rfl_isSign_126
            else
              if v0 = 58 then
                rfl_isSign_126
              else
                if v0 = 59 then
                  rfl_isSign_126
                else
                  if v0 = 44 then
                    rfl_isSign_126
                  else
                    if v0 = 46 then
                      rfl_isSign_126
                    else
                      if v0 = 63 then
                        rfl_isSign_126
                      else
                        if v0 = 61 then
                          rfl_isSign_126
                        else
                          if v0 = 60 then
                            rfl_isSign_126
                          else
                            if v0 = 62 then
                              rfl_isSign_126
                            else
                              if v0 = 43 then
                                rfl_isSign_126
                              else
                                if v0 = 45 then
                                  rfl_isSign_126
                                else
                                  if v0 = 38 then
                                    rfl_isSign_126
                                  else
                                    if v0 = 124 then
                                      rfl_isSign_126
                                    else
                                      if v0 = 94 then
                                        rfl_isSign_126
                                      else
                                        if v0 = 126 then
                                          rfl_isSign_126
                                        else
                                          if v0 = 33 then
                                            rfl_isSign_126
                                          else
                                            rfl_isSign_131 0
theorem D_isSign (w : wX) (t : af_T) (D : Nat) (v0 : Int) (q0 : R32 v0) : PC w D 221 [.int (i32 v0)] t (QS (FP1 t) (rf_isSign v0)) := by
  refine Pc_of (fun D bb => ?_) D
  unfold rf_isSign
  show PP bb w D pm_221 (0, [(0, .int (i32 v0))], [], t, 0, 0) _
  refine P_ld 1 (.int (i32 v0)) rfl (fun _ => rfl) ?_
  refine P_ld 3 (.int (i32 123)) rfl (fun _ => rfl) ?_
  refine P_icF 126 6 rfl rfl rfl q0 (l32 123 rfl) rfl (fun h1 => ?_) (fun h1 => ?_)
  · skip
    exact dg_isSign_126 w t D bb (jk [(0, v0)])
  · skip
    refine P_ld 7 (.int (i32 v0)) rfl (fun _ => rfl) ?_
    refine P_ld 9 (.int (i32 125)) rfl (fun _ => rfl) ?_
    refine P_icF 126 12 rfl rfl rfl q0 (l32 125 rfl) rfl (fun h2 => ?_) (fun h2 => ?_)
    · skip
      exact dg_isSign_126 w t D bb (jk [(0, v0)])
    · skip
      refine P_ld 13 (.int (i32 v0)) rfl (fun _ => rfl) ?_
      refine P_ld 15 (.int (i32 40)) rfl (fun _ => rfl) ?_
      refine P_icF 126 18 rfl rfl rfl q0 (l32 40 rfl) rfl (fun h3 => ?_) (fun h3 => ?_)
      · skip
        exact dg_isSign_126 w t D bb (jk [(0, v0)])
      · skip
        refine P_ld 19 (.int (i32 v0)) rfl (fun _ => rfl) ?_
        refine P_ld 21 (.int (i32 41)) rfl (fun _ => rfl) ?_
        refine P_icF 126 24 rfl rfl rfl q0 (l32 41 rfl) rfl (fun h4 => ?_) (fun h4 => ?_)
        · skip
          exact dg_isSign_126 w t D bb (jk [(0, v0)])
        · skip
          refine P_ld 25 (.int (i32 v0)) rfl (fun _ => rfl) ?_
          refine P_ld 27 (.int (i32 91)) rfl (fun _ => rfl) ?_
          refine P_icF 126 30 rfl rfl rfl q0 (l32 91 rfl) rfl (fun h5 => ?_) (fun h5 => ?_)
          · skip
            exact dg_isSign_126 w t D bb (jk [(0, v0)])
          · skip
            refine P_ld 31 (.int (i32 v0)) rfl (fun _ => rfl) ?_
            refine P_ld 33 (.int (i32 93)) rfl (fun _ => rfl) ?_
            refine P_icF 126 36 rfl rfl rfl q0 (l32 93 rfl) rfl (fun h6 => ?_) (fun h6 => ?_)
            · skip
              exact dg_isSign_126 w t D bb (jk [(0, v0)])
            · skip
              refine P_ld 37 (.int (i32 v0)) rfl (fun _ => rfl) ?_
              refine P_ld 39 (.int (i32 58)) rfl (fun _ => rfl) ?_
              refine P_icF 126 42 rfl rfl rfl q0 (l32 58 rfl) rfl (fun h7 => ?_) (fun h7 => ?_)
              · skip
                exact dg_isSign_126 w t D bb (jk [(0, v0)])
              · skip
                refine P_ld 43 (.int (i32 v0)) rfl (fun _ => rfl) ?_
                refine P_ld 45 (.int (i32 59)) rfl (fun _ => rfl) ?_
                refine P_icF 126 48 rfl rfl rfl q0 (l32 59 rfl) rfl (fun h8 => ?_) (fun h8 => ?_)
                · skip
                  exact dg_isSign_126 w t D bb (jk [(0, v0)])
                · skip
                  refine P_ld 49 (.int (i32 v0)) rfl (fun _ => rfl) ?_
                  refine P_ld 51 (.int (i32 44)) rfl (fun _ => rfl) ?_
                  refine P_icF 126 54 rfl rfl rfl q0 (l32 44 rfl) rfl (fun h9 => ?_) (fun h9 => ?_)
                  · skip
                    exact dg_isSign_126 w t D bb (jk [(0, v0)])
                  · skip
                    refine P_ld 55 (.int (i32 v0)) rfl (fun _ => rfl) ?_
                    refine P_ld 57 (.int (i32 46)) rfl (fun _ => rfl) ?_
                    refine P_icF 126 60 rfl rfl rfl q0 (l32 46 rfl) rfl (fun h10 => ?_) (fun h10 => ?_)
                    · skip
                      exact dg_isSign_126 w t D bb (jk [(0, v0)])
                    · skip
                      refine P_ld 61 (.int (i32 v0)) rfl (fun _ => rfl) ?_
                      refine P_ld 63 (.int (i32 63)) rfl (fun _ => rfl) ?_
                      refine P_icF 126 66 rfl rfl rfl q0 (l32 63 rfl) rfl (fun h11 => ?_) (fun h11 => ?_)
                      · skip
                        exact dg_isSign_126 w t D bb (jk [(0, v0)])
                      · skip
                        refine P_ld 67 (.int (i32 v0)) rfl (fun _ => rfl) ?_
                        refine P_ld 69 (.int (i32 61)) rfl (fun _ => rfl) ?_
                        refine P_icF 126 72 rfl rfl rfl q0 (l32 61 rfl) rfl (fun h12 => ?_) (fun h12 => ?_)
                        · skip
                          exact dg_isSign_126 w t D bb (jk [(0, v0)])
                        · skip
                          refine P_ld 73 (.int (i32 v0)) rfl (fun _ => rfl) ?_
                          refine P_ld 75 (.int (i32 60)) rfl (fun _ => rfl) ?_
                          refine P_icF 126 78 rfl rfl rfl q0 (l32 60 rfl) rfl (fun h13 => ?_) (fun h13 => ?_)
                          · skip
                            exact dg_isSign_126 w t D bb (jk [(0, v0)])
                          · skip
                            refine P_ld 79 (.int (i32 v0)) rfl (fun _ => rfl) ?_
                            refine P_ld 81 (.int (i32 62)) rfl (fun _ => rfl) ?_
                            refine P_icF 126 84 rfl rfl rfl q0 (l32 62 rfl) rfl (fun h14 => ?_) (fun h14 => ?_)
                            · skip
                              exact dg_isSign_126 w t D bb (jk [(0, v0)])
                            · skip
                              refine P_ld 85 (.int (i32 v0)) rfl (fun _ => rfl) ?_
                              refine P_ld 87 (.int (i32 43)) rfl (fun _ => rfl) ?_
                              refine P_icF 126 90 rfl rfl rfl q0 (l32 43 rfl) rfl (fun h15 => ?_) (fun h15 => ?_)
                              · skip
                                exact dg_isSign_126 w t D bb (jk [(0, v0)])
                              · skip
                                refine P_ld 91 (.int (i32 v0)) rfl (fun _ => rfl) ?_
                                refine P_ld 93 (.int (i32 45)) rfl (fun _ => rfl) ?_
                                refine P_icF 126 96 rfl rfl rfl q0 (l32 45 rfl) rfl (fun h16 => ?_) (fun h16 => ?_)
                                · skip
                                  exact dg_isSign_126 w t D bb (jk [(0, v0)])
                                · skip
                                  refine P_ld 97 (.int (i32 v0)) rfl (fun _ => rfl) ?_
                                  refine P_ld 99 (.int (i32 38)) rfl (fun _ => rfl) ?_
                                  refine P_icF 126 102 rfl rfl rfl q0 (l32 38 rfl) rfl (fun h17 => ?_) (fun h17 => ?_)
                                  · skip
                                    exact dg_isSign_126 w t D bb (jk [(0, v0)])
                                  · skip
                                    refine P_ld 103 (.int (i32 v0)) rfl (fun _ => rfl) ?_
                                    refine P_ld 105 (.int (i32 124)) rfl (fun _ => rfl) ?_
                                    refine P_icF 126 108 rfl rfl rfl q0 (l32 124 rfl) rfl (fun h18 => ?_) (fun h18 => ?_)
                                    · skip
                                      exact dg_isSign_126 w t D bb (jk [(0, v0)])
                                    · skip
                                      refine P_ld 109 (.int (i32 v0)) rfl (fun _ => rfl) ?_
                                      refine P_ld 111 (.int (i32 94)) rfl (fun _ => rfl) ?_
                                      refine P_icF 126 114 rfl rfl rfl q0 (l32 94 rfl) rfl (fun h19 => ?_) (fun h19 => ?_)
                                      · skip
                                        exact dg_isSign_126 w t D bb (jk [(0, v0)])
                                      · skip
                                        refine P_ld 115 (.int (i32 v0)) rfl (fun _ => rfl) ?_
                                        refine P_ld 117 (.int (i32 126)) rfl (fun _ => rfl) ?_
                                        refine P_icF 126 120 rfl rfl rfl q0 (l32 126 rfl) rfl (fun h20 => ?_) (fun h20 => ?_)
                                        · skip
                                          exact dg_isSign_126 w t D bb (jk [(0, v0)])
                                        · skip
                                          refine P_ld 121 (.int (i32 v0)) rfl (fun _ => rfl) ?_
                                          refine P_ld 123 (.int (i32 33)) rfl (fun _ => rfl) ?_
                                          refine P_icE 130 126 rfl rfl rfl q0 (l32 33 rfl) rfl (fun h21 => ?_) (fun h21 => ?_)
                                          · skip
                                            exact dg_isSign_126 w t D bb (jk [(0, v0)])
                                          · skip
                                            refine P_ld 131 (.int (i32 0)) rfl (fun _ => rfl) ?_
                                            exact dg_isSign_131 w t D bb 0 (l32 0 rfl) (jk [(0, v0)])
def rf_wrong (v1 : Int) (v2 : Int) (m : mR) : Option (Int × mR) :=
  if m.1 10 ≤ 0 then
    some (0, (mO m [(10, v1), (11, v2)] []))
  else
    some (0, m)
theorem D_wrong (w : wX) (m : mR) (c : Nat → Option am_C) (N D : Nat) (hm : Cn m) (v1 : Int) (v2 : Int) (q1 : R32 v1) (q2 : R32 v2) : PC w D 222 [.ref 189, .int (i32 v1), .int (i32 v2)] (mhp m c, N) (QS (FR0 c N) (rf_wrong v1 v2 m)) := by
  refine Pc_of (fun D bb => ?_) D
  unfold rf_wrong
  show PP bb w D pm_222 (0, [(0, .ref 189), (1, .int (i32 v1)), (2, .int (i32 v2))], [], (mhp (mO m [] []) c, N), 0, 0) _
  refine P_gf 4 (.int (i32 (m.1 10))) rfl rfl rfl rfl rfl rfl ?_
  refine P_ifF 8 7 rfl rfl rfl (Cn_i hm 10 rfl) rfl (fun h1 => ?_) (fun h1 => ?_)
  · skip
    refine P_ld 9 (.ref 189) rfl (fun _ => rfl) ?_
    refine P_ld 10 (.int (i32 v1)) rfl (fun _ => rfl) ?_
    refine P_pf (l' := [(10, v1)]) 13 v1 rfl rfl rfl rfl rfl rfl ?_
    refine P_ld 14 (.ref 189) rfl (fun _ => rfl) ?_
    refine P_ld 15 (.int (i32 v2)) rfl (fun _ => rfl) ?_
    refine P_pf (l' := [(10, v1), (11, v2)]) 18 v2 rfl rfl rfl rfl rfl rfl ?_
    exact P_re0 rfl rfl (Cn_mO hm ⟨(rV_i rfl q1), (rV_i rfl q2), trivial⟩ trivial)
  · skip
    exact P_re0 rfl rfl hm
def cs_look_34 (s : mR) : Prop := Cn s
def cx_look_34 : (mR) → Prop := (fun (e : mR) => Cn e)
def hd_look_34 (c : Nat → Option am_C) (N : Nat) (s : mR) (j : Nat → Int) : ag_St af_T := (34, [(0, .ref 189), (1, .int (i32 (j 1)))], [], (mhp s c, N), 0, 0)
def ex_look_34 (c : Nat → Option am_C) (N : Nat) : (mR) → (Nat → Int) → ag_St af_T := (fun (e : mR) (j : Nat → Int) => ((103, [(0, .ref 189), (1, .int (i32 (j 1)))], [], (mhp e c, N), 0, 0) : ag_St af_T))
def rfl_look_210 (m : mR) : Option (Int × mR) :=
  if m.1 7 = 3 then
    bnd (rf_wrong 2 (m.1 8) m) fun y3 =>
    some (0, y3.2)
  else
    some (0, m)
theorem dg_look_210 (w : wX) (c : Nat → Option am_C) (N D : Nat) (bb : Nat) (m : mR) (hm : Cn m) (j : Nat → Int) : PP bb w D pm_214 (210, [(0, .ref 189), (1, .int (i32 (j 1))), (2, .int (i32 (j 2)))], [], (mhp m c, N), 0, 0) (QS (FR0 c N) (rfl_look_210 m)) := by
  unfold rfl_look_210
  show PP bb w D pm_214 (210, [(0, .ref 189), (1, .int (i32 (j 1))), (2, .int (i32 (j 2)))], [], (mhp (mO m [] []) c, N), 0, 0) _
  refine P_gf 214 (.int (i32 (m.1 7))) rfl rfl rfl rfl rfl rfl ?_
  refine P_ld 215 (.int (i32 3)) rfl (fun _ => rfl) ?_
  refine P_icE 227 218 rfl rfl rfl (Cn_i hm 7 rfl) (l32 3 rfl) rfl (fun h2 => ?_) (fun h2 => ?_)
  · skip
    refine P_ld 219 (.ref 189) rfl (fun _ => rfl) ?_
    refine P_ld 220 (.int (i32 2)) rfl (fun _ => rfl) ?_
    refine P_gf 224 (.int (i32 (m.1 8))) rfl rfl rfl rfl rfl rfl ?_
    refine P_ca0 227 222 [.ref 189, .int (i32 2), .int (i32 (m.1 8))] [] rfl (fun _ => rfl) rfl (D_wrong w m c N D hm 2 (m.1 8) (l32 2 rfl) (Cn_i hm 8 rfl)) (fun y3 n5 => ?_)
    exact P_re0 rfl rfl n5
  · skip
    exact P_re0 rfl rfl hm
def rfl_look_207 (u1 : Int) (m : mR) : Option (Int × mR) :=
  rfl_look_210 (mO m [(7, u1)] [])
theorem dg_look_207 (w : wX) (c : Nat → Option am_C) (N D : Nat) (bb : Nat) (u1 : Int) (r1 : R32 u1) (m : mR) (hm : Cn m) (j : Nat → Int) : PP bb w D pm_214 (207, [(0, .ref 189), (1, .int (i32 (j 1)))], [.int (i32 u1), .ref 189], (mhp m c, N), 0, 0) (QS (FR0 c N) (rfl_look_207 u1 m)) := by
  unfold rfl_look_207
  show PP bb w D pm_214 (207, [(0, .ref 189), (1, .int (i32 (j 1)))], [.int (i32 u1), .ref 189], (mhp (mO m [] []) c, N), 0, 0) _
  refine P_pf (l' := [(7, u1)]) 210 u1 rfl rfl rfl rfl rfl rfl ?_
  refine P_lv (b := [(0, .ref 189), (1, .int (i32 (j 1))), (2, .int (i32 0))]) rfl rfl ⟨rfl, rfl, trivial⟩ ?_
  exact dg_look_210 w c N D bb (mO m [(7, u1)] []) (Cn_mO hm ⟨(rV_i rfl r1), trivial⟩ trivial) (jk [(1, j 1)])
def rfl_look_131 (u1 : Int) (m : mR) : Option (Int × mR) :=
  rfl_look_210 (mO m [(7, u1)] [])
theorem dg_look_131 (w : wX) (c : Nat → Option am_C) (N D : Nat) (bb : Nat) (u1 : Int) (r1 : R32 u1) (m : mR) (hm : Cn m) (j : Nat → Int) : PP bb w D pm_214 (131, [(0, .ref 189), (1, .int (i32 (j 1))), (2, .int (i32 (j 2)))], [.int (i32 u1), .ref 189], (mhp m c, N), 0, 0) (QS (FR0 c N) (rfl_look_131 u1 m)) := by
  unfold rfl_look_131
  show PP bb w D pm_214 (131, [(0, .ref 189), (1, .int (i32 (j 1))), (2, .int (i32 (j 2)))], [.int (i32 u1), .ref 189], (mhp (mO m [] []) c, N), 0, 0) _
  refine P_pf (l' := [(7, u1)]) 134 u1 rfl rfl rfl rfl rfl rfl ?_
  refine P_goto 210 rfl (fun _ => rfl) ?_
  exact dg_look_210 w c N D bb (mO m [(7, u1)] []) (Cn_mO hm ⟨(rV_i rfl r1), trivial⟩ trivial) (jk [(1, j 1), (2, j 2)])
def rfl_look_103 (m : mR) : Option (Int × mR) :=
  bnd (rf_keyword m) fun y6 =>
  if m.1 9 ≤ 16 then
    if y6 ≤ 0 then
      rfl_look_131 1 m
    else
      rfl_look_131 y6 m
  else
    rfl_look_131 3 m
theorem dg_look_103 (w : wX) (c : Nat → Option am_C) (N D : Nat) (bb : Nat) (m : mR) (hm : Cn m) (j : Nat → Int) : PP bb w D pm_214 (103, [(0, .ref 189), (1, .int (i32 (j 1)))], [], (mhp m c, N), 0, 0) (QS (FR0 c N) (rfl_look_103 m)) := by
  unfold rfl_look_103
  show PP bb w D pm_214 (103, [(0, .ref 189), (1, .int (i32 (j 1)))], [], (mhp (mO m [] []) c, N), 0, 0) _
  refine P_ld 104 (.ref 189) rfl (fun _ => rfl) ?_
  refine P_cp1 107 217 [.ref 189] [] rfl (fun _ => rfl) rfl (D_keyword w m c N D hm) (fun y6 h7 => ?_)
  refine P_sto 108 [(2, .int (i32 y6)), (0, .ref 189), (1, .int (i32 (j 1)))] rfl (fun _ => rfl) ?_
  refine P_ld 109 (.ref 189) rfl (fun _ => rfl) ?_
  refine P_gf 113 (.int (i32 (m.1 9))) rfl rfl rfl rfl rfl rfl ?_
  refine P_ld 115 (.int (i32 16)) rfl (fun _ => rfl) ?_
  refine P_icF 122 118 rfl rfl rfl (Cn_i hm 9 rfl) (l32 16 rfl) rfl (fun h8 => ?_) (fun h8 => ?_)
  · skip
    refine P_ld 123 (.int (i32 y6)) rfl (fun _ => rfl) ?_
    refine P_ifF 130 126 rfl rfl rfl h7 rfl (fun h9 => ?_) (fun h9 => ?_)
    · skip
      refine P_ld 131 (.int (i32 1)) rfl (fun _ => rfl) ?_
      refine P_lv (b := [(0, .ref 189), (1, .int (i32 (j 1))), (2, .int (i32 y6))]) rfl rfl ⟨rfl, rfl, rfl, trivial⟩ ?_
      exact dg_look_131 w c N D bb 1 (l32 1 rfl) m hm (jk [(1, j 1), (2, y6)])
    · skip
      refine P_ld 127 (.int (i32 y6)) rfl (fun _ => rfl) ?_
      refine P_goto 131 rfl (fun _ => rfl) ?_
      refine P_lv (b := [(0, .ref 189), (1, .int (i32 (j 1))), (2, .int (i32 y6))]) rfl rfl ⟨rfl, rfl, rfl, trivial⟩ ?_
      exact dg_look_131 w c N D bb y6 h7 m hm (jk [(1, j 1), (2, y6)])
  · skip
    refine P_ld 119 (.int (i32 3)) rfl (fun _ => rfl) ?_
    refine P_goto 131 rfl (fun _ => rfl) ?_
    refine P_lv (b := [(0, .ref 189), (1, .int (i32 (j 1))), (2, .int (i32 y6))]) rfl rfl ⟨rfl, rfl, rfl, trivial⟩ ?_
    exact dg_look_131 w c N D bb 3 (l32 3 rfl) m hm (jk [(1, j 1), (2, y6)])
def rfl_look_90 (m : mR) : Option (Sum (mR) (mR)) :=
  some (.inl (mO m [(9, cut ((m.1 9) + 1))] []))
theorem dg_look_90 (w : wX) (c : Nat → Option am_C) (N D : Nat) (bb : Nat) (m : mR) (hm : Cn m) (j : Nat → Int) (Q2 : Sum (mR) (mR) → ag_Re af_T → Prop) (H1 : ∀ s j, cs_look_34 s → PP bb w D pm_214 (hd_look_34 c N s j) (Q2 (.inl s))) (H2 : ∀ x j, cx_look_34 x → PP bb w D pm_214 (ex_look_34 c N x j) (Q2 (.inr x))) : PP bb w D pm_214 (90, [(0, .ref 189), (1, .int (i32 (j 1)))], [], (mhp m c, N), 0, 0) (QS Q2 (rfl_look_90 m)) := by
  unfold rfl_look_90
  show PP bb w D pm_214 (90, [(0, .ref 189), (1, .int (i32 (j 1)))], [], (mhp (mO m [] []) c, N), 0, 0) _
  refine P_ld 91 (.ref 189) rfl (fun _ => rfl) ?_
  refine P_ld 92 (.ref 189) rfl (fun _ => rfl) ?_
  refine P_gf1 95 (.int (i32 (m.1 9))) rfl rfl rfl rfl ?_
  refine P_ld 96 (.int (i32 1)) rfl (fun _ => rfl) ?_
  refine P_op 97 (cut ((m.1 9) + 1)) _ rfl (fun _ => rfl) o_add ?_
  refine P_pf (l' := [(9, cut ((m.1 9) + 1))]) 100 (cut ((m.1 9) + 1)) rfl rfl rfl rfl rfl rfl ?_
  refine P_goto 34 rfl (fun _ => rfl) ?_
  refine P_some ?_
  exact H1 (mO m [(9, cut ((m.1 9) + 1))] []) (jk [(1, j 1)]) (Cn_mO hm ⟨(rV_i rfl cut_r), trivial⟩ trivial)
def rfb_look_34 (s : mR) : Option (Sum (mR) (mR)) :=
  bnd (rf_byteAt1 (cut ((s.1 8) + (s.1 9))) s) fun y11 =>
  bnd (rf_isSmall y11) fun y13 =>
  if y13 = 0 then
    bnd (rf_byteAt1 (cut ((s.1 8) + (s.1 9))) s) fun y16 =>
    bnd (rf_isDigit y16) fun y18 =>
    if y18 = 0 then
      bnd (rf_byteAt1 (cut ((s.1 8) + (s.1 9))) s) fun y21 =>
      if y21 = 95 then
        rfl_look_90 s
      else
        some (.inr s)
    else
      rfl_look_90 s
  else
    rfl_look_90 s
theorem dh_look_34 (w : wX) (c : Nat → Option am_C) (N D : Nat) (bb : Nat) (Q2 : Sum (mR) (mR) → ag_Re af_T → Prop) (H1 : ∀ s j, cs_look_34 s → PP bb w D pm_214 (hd_look_34 c N s j) (Q2 (.inl s))) (H2 : ∀ x j, cx_look_34 x → PP bb w D pm_214 (ex_look_34 c N x j) (Q2 (.inr x))) (s : mR) (j : Nat → Int) (hs : cs_look_34 s) : PP (bb + 1) w D pm_214 (hd_look_34 c N s j) (QS Q2 (rfb_look_34 s)) := by
  have gm := hs
  unfold rfb_look_34
  show PP (bb + 1) w D pm_214 (34, [(0, .ref 189), (1, .int (i32 (j 1)))], [], (mhp (mO s [] []) c, N), 0, 0) _
  refine P1_ld 35 (.ref 189) rfl (fun _ => rfl) ?_
  refine P_gf 39 (.int (i32 (s.1 8))) rfl rfl rfl rfl rfl rfl ?_
  refine P_gf 43 (.int (i32 (s.1 9))) rfl rfl rfl rfl rfl rfl ?_
  refine P_op 44 (cut ((s.1 8) + (s.1 9))) _ rfl (fun _ => rfl) o_add ?_
  refine P_cp1 47 213 [.ref 189, .int (i32 (cut ((s.1 8) + (s.1 9))))] [] rfl (fun _ => rfl) rfl (D_byteAt1 w s c N D gm (cut ((s.1 8) + (s.1 9))) cut_r) (fun y11 h12 => ?_)
  refine P_cp1 50 215 [.int (i32 y11)] [] rfl (fun _ => rfl) rfl (D_isSmall w _ D y11 h12) (fun y13 h14 => ?_)
  refine P_ifE 90 53 rfl rfl rfl h14 rfl (fun h15 => ?_) (fun h15 => ?_)
  · skip
    refine P_ld 54 (.ref 189) rfl (fun _ => rfl) ?_
    refine P_gf 58 (.int (i32 (s.1 8))) rfl rfl rfl rfl rfl rfl ?_
    refine P_gf 62 (.int (i32 (s.1 9))) rfl rfl rfl rfl rfl rfl ?_
    refine P_op 63 (cut ((s.1 8) + (s.1 9))) _ rfl (fun _ => rfl) o_add ?_
    refine P_cp1 66 213 [.ref 189, .int (i32 (cut ((s.1 8) + (s.1 9))))] [] rfl (fun _ => rfl) rfl (D_byteAt1 w s c N D gm (cut ((s.1 8) + (s.1 9))) cut_r) (fun y16 h17 => ?_)
    refine P_cp1 69 216 [.int (i32 y16)] [] rfl (fun _ => rfl) rfl (D_isDigit w _ D y16 h17) (fun y18 h19 => ?_)
    refine P_ifE 90 72 rfl rfl rfl h19 rfl (fun h20 => ?_) (fun h20 => ?_)
    · skip
      refine P_ld 73 (.ref 189) rfl (fun _ => rfl) ?_
      refine P_gf 77 (.int (i32 (s.1 8))) rfl rfl rfl rfl rfl rfl ?_
      refine P_gf 81 (.int (i32 (s.1 9))) rfl rfl rfl rfl rfl rfl ?_
      refine P_op 82 (cut ((s.1 8) + (s.1 9))) _ rfl (fun _ => rfl) o_add ?_
      refine P_cp1 85 213 [.ref 189, .int (i32 (cut ((s.1 8) + (s.1 9))))] [] rfl (fun _ => rfl) rfl (D_byteAt1 w s c N D gm (cut ((s.1 8) + (s.1 9))) cut_r) (fun y21 h22 => ?_)
      refine P_ld 87 (.int (i32 95)) rfl (fun _ => rfl) ?_
      refine P_icE 103 90 rfl rfl rfl h22 (l32 95 rfl) rfl (fun h23 => ?_) (fun h23 => ?_)
      · skip
        exact dg_look_90 w c N D bb s gm (jk [(1, j 1)]) Q2 H1 H2
      · skip
        refine P_some ?_
        exact H2 s (jk [(1, j 1)]) gm
    · skip
      exact dg_look_90 w c N D bb s gm (jk [(1, j 1)]) Q2 H1 H2
  · skip
    exact dg_look_90 w c N D bb s gm (jk [(1, j 1)]) Q2 H1 H2
def rf_look (m : mR) : Option (Int × mR) :=
  bnd (rf_byteAt1 (m.1 8) m) fun y24 =>
  if y24 = (-1) then
    rfl_look_210 (mO m [(7, 0), (9, 1)] [])
  else
    bnd (rf_isSmall y24) fun y27 =>
    if y27 = 0 then
      bnd (rf_isDigit y24) fun y30 =>
      if y30 = 0 then
        bnd (rf_byteAt1 (cut ((m.1 8) + 1)) (mO m [(9, 1)] [])) fun y33 =>
        bnd (rf_twice y24 y33) fun y35 =>
        if y35 ≤ 0 then
          bnd (rf_isSign y24) fun y38 =>
          if y38 = 0 then
            rfl_look_207 3 (mO m [(9, 1)] [])
          else
            rfl_look_207 y24 (mO m [(9, 1)] [])
        else
          bnd (rf_byteAt1 (cut ((m.1 8) + 1)) (mO m [(9, 1)] [])) fun y41 =>
          bnd (rf_twice y24 y41) fun y43 =>
          rfl_look_210 (mO m [(7, y43), (9, 2)] [])
      else
        bnd (rf_lookNumber (mO m [(9, 1)] [])) fun y45 =>
        rfl_look_210 y45.2
    else
      bnd (whl rfb_look_34 (mO m [(9, 1)] [])) (fun e48 : mR =>
        rfl_look_103 e48)
theorem D_look (w : wX) (m : mR) (c : Nat → Option am_C) (N D : Nat) (hm : Cn m) : PC w D 214 [.ref 189] (mhp m c, N) (QS (FR0 c N) (rf_look m)) := by
  refine Pc_of (fun D bb => ?_) D
  unfold rf_look
  show PP bb w D pm_214 (0, [(0, .ref 189)], [], (mhp (mO m [] []) c, N), 0, 0) _
  refine P_ld 1 (.ref 189) rfl (fun _ => rfl) ?_
  refine P_gf 5 (.int (i32 (m.1 8))) rfl rfl rfl rfl rfl rfl ?_
  refine P_cp1 8 213 [.ref 189, .int (i32 (m.1 8))] [] rfl (fun _ => rfl) rfl (D_byteAt1 w m c N D hm (m.1 8) (Cn_i hm 8 rfl)) (fun y24 h25 => ?_)
  refine P_sto 9 [(1, .int (i32 y24)), (0, .ref 189)] rfl (fun _ => rfl) ?_
  refine P_ld 10 (.ref 189) rfl (fun _ => rfl) ?_
  refine P_ld 11 (.int (i32 1)) rfl (fun _ => rfl) ?_
  refine P_pf (l' := [(9, 1)]) 14 1 rfl rfl rfl rfl rfl rfl ?_
  refine P_ld 15 (.int (i32 y24)) rfl (fun _ => rfl) ?_
  refine P_ld 16 (.int (i32 (-1))) rfl (fun _ => rfl) ?_
  refine P_icE 27 19 rfl rfl rfl h25 (l32 (-1) rfl) rfl (fun h26 => ?_) (fun h26 => ?_)
  · skip
    refine P_ld 20 (.ref 189) rfl (fun _ => rfl) ?_
    refine P_ld 21 (.int (i32 0)) rfl (fun _ => rfl) ?_
    refine P_pf (l' := [(7, 0), (9, 1)]) 24 0 rfl rfl rfl rfl rfl rfl ?_
    refine P_goto 210 rfl (fun _ => rfl) ?_
    refine P_lv (b := [(0, .ref 189), (1, .int (i32 y24)), (2, .int (i32 0))]) rfl rfl ⟨rfl, rfl, trivial⟩ ?_
    exact dg_look_210 w c N D bb (mO m [(7, 0), (9, 1)] []) (Cn_mO hm ⟨(rV_i rfl (l32 0 rfl)), (rV_i rfl (l32 1 rfl)), trivial⟩ trivial) (jk [(1, y24)])
  · skip
    refine P_ld 28 (.int (i32 y24)) rfl (fun _ => rfl) ?_
    refine P_cp1 31 215 [.int (i32 y24)] [] rfl (fun _ => rfl) rfl (D_isSmall w _ D y24 h25) (fun y27 h28 => ?_)
    refine P_ifF 137 34 rfl rfl rfl h28 rfl (fun h29 => ?_) (fun h29 => ?_)
    · skip
      refine P_ld 138 (.int (i32 y24)) rfl (fun _ => rfl) ?_
      refine P_cp1 141 216 [.int (i32 y24)] [] rfl (fun _ => rfl) rfl (D_isDigit w _ D y24 h25) (fun y30 h31 => ?_)
      refine P_ifF 151 144 rfl rfl rfl h31 rfl (fun h32 => ?_) (fun h32 => ?_)
      · skip
        refine P_ld 152 (.int (i32 y24)) rfl (fun _ => rfl) ?_
        refine P_ld 153 (.ref 189) rfl (fun _ => rfl) ?_
        refine P_gf 157 (.int (i32 (m.1 8))) rfl rfl rfl rfl rfl rfl ?_
        refine P_ld 158 (.int (i32 1)) rfl (fun _ => rfl) ?_
        refine P_op 159 (cut ((m.1 8) + 1)) _ rfl (fun _ => rfl) o_add ?_
        refine P_cp1 162 213 [.ref 189, .int (i32 (cut ((m.1 8) + 1)))] [.int (i32 y24)] rfl (fun _ => rfl) rfl (D_byteAt1 w (mO m [(9, 1)] []) c N D (Cn_mO hm ⟨(rV_i rfl (l32 1 rfl)), trivial⟩ trivial) (cut ((m.1 8) + 1)) cut_r) (fun y33 h34 => ?_)
        refine P_cp1 165 220 [.int (i32 y24), .int (i32 y33)] [] rfl (fun _ => rfl) rfl (D_twice w _ D y24 y33 h25 h34) (fun y35 h36 => ?_)
        refine P_ifF 194 168 rfl rfl rfl h36 rfl (fun h37 => ?_) (fun h37 => ?_)
        · skip
          refine P_ld 195 (.ref 189) rfl (fun _ => rfl) ?_
          refine P_ld 196 (.int (i32 y24)) rfl (fun _ => rfl) ?_
          refine P_cp1 199 221 [.int (i32 y24)] [.ref 189] rfl (fun _ => rfl) rfl (D_isSign w _ D y24 h25) (fun y38 h39 => ?_)
          refine P_ifF 206 202 rfl rfl rfl h39 rfl (fun h40 => ?_) (fun h40 => ?_)
          · skip
            refine P_ld 207 (.int (i32 3)) rfl (fun _ => rfl) ?_
            refine P_lv (b := [(0, .ref 189), (1, .int (i32 y24))]) rfl rfl ⟨rfl, rfl, trivial⟩ ?_
            exact dg_look_207 w c N D bb 3 (l32 3 rfl) (mO m [(9, 1)] []) (Cn_mO hm ⟨(rV_i rfl (l32 1 rfl)), trivial⟩ trivial) (jk [(1, y24)])
          · skip
            refine P_ld 203 (.int (i32 y24)) rfl (fun _ => rfl) ?_
            refine P_goto 207 rfl (fun _ => rfl) ?_
            refine P_lv (b := [(0, .ref 189), (1, .int (i32 y24))]) rfl rfl ⟨rfl, rfl, trivial⟩ ?_
            exact dg_look_207 w c N D bb y24 h25 (mO m [(9, 1)] []) (Cn_mO hm ⟨(rV_i rfl (l32 1 rfl)), trivial⟩ trivial) (jk [(1, y24)])
        · skip
          refine P_ld 169 (.ref 189) rfl (fun _ => rfl) ?_
          refine P_ld 170 (.int (i32 y24)) rfl (fun _ => rfl) ?_
          refine P_ld 171 (.ref 189) rfl (fun _ => rfl) ?_
          refine P_gf 175 (.int (i32 (m.1 8))) rfl rfl rfl rfl rfl rfl ?_
          refine P_ld 176 (.int (i32 1)) rfl (fun _ => rfl) ?_
          refine P_op 177 (cut ((m.1 8) + 1)) _ rfl (fun _ => rfl) o_add ?_
          refine P_cp1 180 213 [.ref 189, .int (i32 (cut ((m.1 8) + 1)))] [.int (i32 y24), .ref 189] rfl (fun _ => rfl) rfl (D_byteAt1 w (mO m [(9, 1)] []) c N D (Cn_mO hm ⟨(rV_i rfl (l32 1 rfl)), trivial⟩ trivial) (cut ((m.1 8) + 1)) cut_r) (fun y41 h42 => ?_)
          refine P_cp1 183 220 [.int (i32 y24), .int (i32 y41)] [.ref 189] rfl (fun _ => rfl) rfl (D_twice w _ D y24 y41 h25 h42) (fun y43 h44 => ?_)
          refine P_pf (l' := [(7, y43), (9, 1)]) 186 y43 rfl rfl rfl rfl rfl rfl ?_
          refine P_ld 187 (.ref 189) rfl (fun _ => rfl) ?_
          refine P_ld 188 (.int (i32 2)) rfl (fun _ => rfl) ?_
          refine P_pf (l' := [(7, y43), (9, 2)]) 191 2 rfl rfl rfl rfl rfl rfl ?_
          refine P_goto 210 rfl (fun _ => rfl) ?_
          refine P_lv (b := [(0, .ref 189), (1, .int (i32 y24)), (2, .int (i32 0))]) rfl rfl ⟨rfl, rfl, trivial⟩ ?_
          exact dg_look_210 w c N D bb (mO m [(7, y43), (9, 2)] []) (Cn_mO hm ⟨(rV_i rfl h44), (rV_i rfl (l32 2 rfl)), trivial⟩ trivial) (jk [(1, y24)])
      · skip
        refine P_ld 145 (.ref 189) rfl (fun _ => rfl) ?_
        refine P_ca0 148 218 [.ref 189] [] rfl (fun _ => rfl) rfl (D_lookNumber w (mO m [(9, 1)] []) c N D (Cn_mO hm ⟨(rV_i rfl (l32 1 rfl)), trivial⟩ trivial)) (fun y45 n47 => ?_)
        refine P_goto 210 rfl (fun _ => rfl) ?_
        refine P_lv (b := [(0, .ref 189), (1, .int (i32 y24)), (2, .int (i32 0))]) rfl rfl ⟨rfl, rfl, trivial⟩ ?_
        exact dg_look_210 w c N D bb y45.2 n47 (jk [(1, y24)])
    · skip
      refine P_lv (b := [(0, .ref 189), (1, .int (i32 y24))]) rfl rfl ⟨rfl, rfl, trivial⟩ ?_
      refine P_bnd ?_
      refine P_whl (fun bb Q2 H1 H2 s9 j9 hs9 => dh_look_34 w c N D bb Q2 H1 H2 s9 j9 hs9) bb (fun e48 j q49 => ?_) (mO m [(9, 1)] []) (jk [(1, y24)]) (Cn_mO hm ⟨(rV_i rfl (l32 1 rfl)), trivial⟩ trivial)
      have q50 := q49
      show PP bb w D pm_214 (103, [(0, .ref 189), (1, .int (i32 (j 1)))], [], (mhp (mO e48 [] []) c, N), 0, 0) (QS _ (rfl_look_103 e48))
      exact dg_look_103 w c N D bb e48 q50 (jk [(1, j 1)])
def cs_next_21 (s : mR) : Prop := Cn s
def cx_next_21 : (mR) → Prop := (fun (e : mR) => Cn e)
def hd_next_21 (c : Nat → Option am_C) (N : Nat) (s : mR) (j : Nat → Int) : ag_St af_T := (21, [(0, .ref 189)], [], (mhp s c, N), 0, 0)
def ex_next_21 (c : Nat → Option am_C) (N : Nat) : (mR) → (Nat → Int) → ag_St af_T := (fun (e : mR) (j : Nat → Int) => ((60, [(0, .ref 189)], [], (mhp e c, N), 0, 0) : ag_St af_T))
def rfl_next_60 (m : mR) : Option (Int × mR) :=
  bnd (rf_look m) fun y2 =>
  some (0, y2.2)
theorem dg_next_60 (w : wX) (c : Nat → Option am_C) (N D : Nat) (bb : Nat) (m : mR) (hm : Cn m) (j : Nat → Int) : PP bb w D pm_212 (60, [(0, .ref 189)], [], (mhp m c, N), 0, 0) (QS (FR0 c N) (rfl_next_60 m)) := by
  unfold rfl_next_60
  show PP bb w D pm_212 (60, [(0, .ref 189)], [], (mhp (mO m [] []) c, N), 0, 0) _
  refine P_ld 61 (.ref 189) rfl (fun _ => rfl) ?_
  refine P_ca0 64 214 [.ref 189] [] rfl (fun _ => rfl) rfl (D_look w m c N D hm) (fun y2 n4 => ?_)
  exact P_re0 rfl rfl n4
def rfl_next_47 (m : mR) : Option (Sum (mR) (mR)) :=
  some (.inl (mO m [(8, cut ((m.1 8) + 1))] []))
theorem dg_next_47 (w : wX) (c : Nat → Option am_C) (N D : Nat) (bb : Nat) (m : mR) (hm : Cn m) (j : Nat → Int) (Q2 : Sum (mR) (mR) → ag_Re af_T → Prop) (H1 : ∀ s j, cs_next_21 s → PP bb w D pm_212 (hd_next_21 c N s j) (Q2 (.inl s))) (H2 : ∀ x j, cx_next_21 x → PP bb w D pm_212 (ex_next_21 c N x j) (Q2 (.inr x))) : PP bb w D pm_212 (47, [(0, .ref 189)], [], (mhp m c, N), 0, 0) (QS Q2 (rfl_next_47 m)) := by
  unfold rfl_next_47
  show PP bb w D pm_212 (47, [(0, .ref 189)], [], (mhp (mO m [] []) c, N), 0, 0) _
  refine P_ld 48 (.ref 189) rfl (fun _ => rfl) ?_
  refine P_ld 49 (.ref 189) rfl (fun _ => rfl) ?_
  refine P_gf1 52 (.int (i32 (m.1 8))) rfl rfl rfl rfl ?_
  refine P_ld 53 (.int (i32 1)) rfl (fun _ => rfl) ?_
  refine P_op 54 (cut ((m.1 8) + 1)) _ rfl (fun _ => rfl) o_add ?_
  refine P_pf (l' := [(8, cut ((m.1 8) + 1))]) 57 (cut ((m.1 8) + 1)) rfl rfl rfl rfl rfl rfl ?_
  refine P_goto 21 rfl (fun _ => rfl) ?_
  refine P_some ?_
  exact H1 (mO m [(8, cut ((m.1 8) + 1))] []) (jk []) (Cn_mO hm ⟨(rV_i rfl cut_r), trivial⟩ trivial)
def rfb_next_21 (s : mR) : Option (Sum (mR) (mR)) :=
  bnd (rf_byteAt1 (s.1 8) s) fun y6 =>
  if y6 = 32 then
    rfl_next_47 s
  else
    bnd (rf_byteAt1 (s.1 8) s) fun y9 =>
    if y9 = 10 then
      rfl_next_47 s
    else
      some (.inr s)
theorem dh_next_21 (w : wX) (c : Nat → Option am_C) (N D : Nat) (bb : Nat) (Q2 : Sum (mR) (mR) → ag_Re af_T → Prop) (H1 : ∀ s j, cs_next_21 s → PP bb w D pm_212 (hd_next_21 c N s j) (Q2 (.inl s))) (H2 : ∀ x j, cx_next_21 x → PP bb w D pm_212 (ex_next_21 c N x j) (Q2 (.inr x))) (s : mR) (j : Nat → Int) (hs : cs_next_21 s) : PP (bb + 1) w D pm_212 (hd_next_21 c N s j) (QS Q2 (rfb_next_21 s)) := by
  have gm := hs
  unfold rfb_next_21
  show PP (bb + 1) w D pm_212 (21, [(0, .ref 189)], [], (mhp (mO s [] []) c, N), 0, 0) _
  refine P1_ld 22 (.ref 189) rfl (fun _ => rfl) ?_
  refine P_gf 26 (.int (i32 (s.1 8))) rfl rfl rfl rfl rfl rfl ?_
  refine P_cp1 29 213 [.ref 189, .int (i32 (s.1 8))] [] rfl (fun _ => rfl) rfl (D_byteAt1 w s c N D gm (s.1 8) (Cn_i gm 8 rfl)) (fun y6 h7 => ?_)
  refine P_ld 31 (.int (i32 32)) rfl (fun _ => rfl) ?_
  refine P_icF 47 34 rfl rfl rfl h7 (l32 32 rfl) rfl (fun h8 => ?_) (fun h8 => ?_)
  · skip
    exact dg_next_47 w c N D bb s gm (jk []) Q2 H1 H2
  · skip
    refine P_ld 35 (.ref 189) rfl (fun _ => rfl) ?_
    refine P_gf 39 (.int (i32 (s.1 8))) rfl rfl rfl rfl rfl rfl ?_
    refine P_cp1 42 213 [.ref 189, .int (i32 (s.1 8))] [] rfl (fun _ => rfl) rfl (D_byteAt1 w s c N D gm (s.1 8) (Cn_i gm 8 rfl)) (fun y9 h10 => ?_)
    refine P_ld 44 (.int (i32 10)) rfl (fun _ => rfl) ?_
    refine P_icE 60 47 rfl rfl rfl h10 (l32 10 rfl) rfl (fun h11 => ?_) (fun h11 => ?_)
    · skip
      exact dg_next_47 w c N D bb s gm (jk []) Q2 H1 H2
    · skip
      refine P_some ?_
      exact H2 s (jk []) gm
def rf_next (m : mR) : Option (Int × mR) :=
  if m.1 10 ≤ 0 then
    bnd (whl rfb_next_21 (mO m [(8, cut ((m.1 8) + (m.1 9)))] [])) (fun e13 : mR =>
      rfl_next_60 e13)
  else
    some (0, m)
theorem D_next (w : wX) (m : mR) (c : Nat → Option am_C) (N D : Nat) (hm : Cn m) : PC w D 212 [.ref 189] (mhp m c, N) (QS (FR0 c N) (rf_next m)) := by
  refine Pc_of (fun D bb => ?_) D
  unfold rf_next
  show PP bb w D pm_212 (0, [(0, .ref 189)], [], (mhp (mO m [] []) c, N), 0, 0) _
  refine P_gf 4 (.int (i32 (m.1 10))) rfl rfl rfl rfl rfl rfl ?_
  refine P_ifF 8 7 rfl rfl rfl (Cn_i hm 10 rfl) rfl (fun h12 => ?_) (fun h12 => ?_)
  · skip
    refine P_ld 9 (.ref 189) rfl (fun _ => rfl) ?_
    refine P_ld 10 (.ref 189) rfl (fun _ => rfl) ?_
    refine P_gf1 13 (.int (i32 (m.1 8))) rfl rfl rfl rfl ?_
    refine P_gf 17 (.int (i32 (m.1 9))) rfl rfl rfl rfl rfl rfl ?_
    refine P_op 18 (cut ((m.1 8) + (m.1 9))) _ rfl (fun _ => rfl) o_add ?_
    refine P_pf (l' := [(8, cut ((m.1 8) + (m.1 9)))]) 21 (cut ((m.1 8) + (m.1 9))) rfl rfl rfl rfl rfl rfl ?_
    refine P_bnd ?_
    refine P_whl (fun bb Q2 H1 H2 s9 j9 hs9 => dh_next_21 w c N D bb Q2 H1 H2 s9 j9 hs9) bb (fun e13 j q14 => ?_) (mO m [(8, cut ((m.1 8) + (m.1 9)))] []) (jk []) (Cn_mO hm ⟨(rV_i rfl cut_r), trivial⟩ trivial)
    have q15 := q14
    show PP bb w D pm_212 (60, [(0, .ref 189)], [], (mhp (mO e13 [] []) c, N), 0, 0) (QS _ (rfl_next_60 e13))
    exact dg_next_60 w c N D bb e13 q15 (jk [])
  · skip
    exact P_re0 rfl rfl hm
def rf_bad (m : mR) : Option (Int × mR) :=
  bnd (rf_wrong 1 (m.1 8) m) fun y1 =>
  some (0, y1.2)
theorem D_bad (w : wX) (m : mR) (c : Nat → Option am_C) (N D : Nat) (hm : Cn m) : PC w D 226 [.ref 189] (mhp m c, N) (QS (FR0 c N) (rf_bad m)) := by
  refine Pc_of (fun D bb => ?_) D
  unfold rf_bad
  show PP bb w D pm_226 (0, [(0, .ref 189)], [], (mhp (mO m [] []) c, N), 0, 0) _
  refine P_ld 1 (.ref 189) rfl (fun _ => rfl) ?_
  refine P_ld 2 (.int (i32 1)) rfl (fun _ => rfl) ?_
  refine P_gf 6 (.int (i32 (m.1 8))) rfl rfl rfl rfl rfl rfl ?_
  refine P_ca0 9 222 [.ref 189, .int (i32 1), .int (i32 (m.1 8))] [] rfl (fun _ => rfl) rfl (D_wrong w m c N D hm 1 (m.1 8) (l32 1 rfl) (Cn_i hm 8 rfl)) (fun y1 n3 => ?_)
  exact P_re0 rfl rfl n3
def cs_givenHere_4 (s : Int × Int) : Prop := R32 s.1 ∧ R32 s.2
def cx_givenHere_4 : (Sum (Int) (Unit)) → Prop := (sel (fun (e : Int) => R32 e) (fun (e : Unit) => True))
def hd_givenHere_4 (c : Nat → Option am_C) (N : Nat) (m : mR) (s : Int × Int) (j : Nat → Int) : ag_St af_T := (4, [(0, .ref 189), (1, .int (i32 s.1)), (2, .int (i32 s.2)), (3, .int (i32 (j 3))), (4, .int (i32 (j 4))), (5, .int (i32 (j 5)))], [], (mhp m c, N), 0, 0)
def ex_givenHere_4 (c : Nat → Option am_C) (N : Nat) (m : mR) : (Sum (Int) (Unit)) → (Nat → Int) → ag_St af_T := (sel (fun (e : Int) (j : Nat → Int) => ((99, [(0, .ref 189), (1, .int (i32 (j 1))), (2, .int (i32 e)), (3, .int (i32 (j 3))), (4, .int (i32 (j 4))), (5, .int (i32 (j 5)))], [], (mhp m c, N), 0, 0) : ag_St af_T)) (fun (e : Unit) (j : Nat → Int) => ((113, [(0, .ref 189), (1, .int (i32 (j 1))), (2, .int (i32 (j 2))), (3, .int (i32 (j 3))), (4, .int (i32 (j 4))), (5, .int (i32 (j 5)))], [], (mhp m c, N), 0, 0) : ag_St af_T)))
def cs_givenHere_11 (s : Int) : Prop := R32 s
def cx_givenHere_11 : (Int) → Prop := (fun (e : Int) => R32 e)
def hd_givenHere_11 (c : Nat → Option am_C) (N : Nat) (v1 : Int) (v2 : Int) (m : mR) (s : Int) (j : Nat → Int) : ag_St af_T := (11, [(0, .ref 189), (1, .int (i32 v1)), (2, .int (i32 v2)), (3, .int (i32 s)), (4, .int (i32 (j 4))), (5, .int (i32 (j 5)))], [], (mhp m c, N), 0, 0)
def ex_givenHere_11 (c : Nat → Option am_C) (N : Nat) (v1 : Int) (v2 : Int) (m : mR) : (Int) → (Nat → Int) → ag_St af_T := (fun (e : Int) (j : Nat → Int) => ((28, [(0, .ref 189), (1, .int (i32 v1)), (2, .int (i32 v2)), (3, .int (i32 e)), (4, .int (i32 (j 4))), (5, .int (i32 (j 5)))], [], (mhp m c, N), 0, 0) : ag_St af_T))
def cs_givenHere_46 (s : Int × Int) : Prop := R32 s.1 ∧ R32 s.2
def cx_givenHere_46 : (Int) → Prop := (fun (e : Int) => R32 e)
def hd_givenHere_46 (c : Nat → Option am_C) (N : Nat) (v1 : Int) (v2 : Int) (v3 : Int) (m : mR) (s : Int × Int) (j : Nat → Int) : ag_St af_T := (46, [(0, .ref 189), (1, .int (i32 v1)), (2, .int (i32 v2)), (3, .int (i32 v3)), (4, .int (i32 s.1)), (5, .int (i32 s.2))], [], (mhp m c, N), 0, 0)
def ex_givenHere_46 (c : Nat → Option am_C) (N : Nat) (v1 : Int) (v2 : Int) (v3 : Int) (m : mR) : (Int) → (Nat → Int) → ag_St af_T := (fun (e : Int) (j : Nat → Int) => ((94, [(0, .ref 189), (1, .int (i32 v1)), (2, .int (i32 v2)), (3, .int (i32 v3)), (4, .int (i32 e)), (5, .int (i32 (j 5)))], [], (mhp m c, N), 0, 0) : ag_St af_T))
def rfl_givenHere_94 (v1 : Int) (v2 : Int) (v3 : Int) (v4 : Int) (m : mR) : Option (Sum (Int × Int) (Sum (Int) (Unit))) :=
  if v4 = 0 then
    some (.inl (cut (v1 + (cut (v3 + 1))), cut (v2 + 1)))
  else
    some (.inr (.inl v2))
theorem dg_givenHere_94 (w : wX) (c : Nat → Option am_C) (N D : Nat) (bb : Nat) (v1 : Int) (v2 : Int) (v3 : Int) (v4 : Int) (q1 : R32 v1) (q2 : R32 v2) (q3 : R32 v3) (q4 : R32 v4) (m : mR) (hm : Cn m) (j : Nat → Int) (Q2 : Sum (Int × Int) (Sum (Int) (Unit)) → ag_Re af_T → Prop) (H1 : ∀ s j, cs_givenHere_4 s → PP bb w D pm_228 (hd_givenHere_4 c N m s j) (Q2 (.inl s))) (H2 : ∀ x j, cx_givenHere_4 x → PP bb w D pm_228 (ex_givenHere_4 c N m x j) (Q2 (.inr x))) : PP bb w D pm_228 (94, [(0, .ref 189), (1, .int (i32 v1)), (2, .int (i32 v2)), (3, .int (i32 v3)), (4, .int (i32 v4)), (5, .int (i32 (j 5)))], [], (mhp m c, N), 0, 0) (QS Q2 (rfl_givenHere_94 v1 v2 v3 v4 m)) := by
  unfold rfl_givenHere_94
  show PP bb w D pm_228 (94, [(0, .ref 189), (1, .int (i32 v1)), (2, .int (i32 v2)), (3, .int (i32 v3)), (4, .int (i32 v4)), (5, .int (i32 (j 5)))], [], (mhp (mO m [] []) c, N), 0, 0) _
  refine P_ld 96 (.int (i32 v4)) rfl (fun _ => rfl) ?_
  refine P_ifF 101 99 rfl rfl rfl q4 rfl (fun h4 => ?_) (fun h4 => ?_)
  · skip
    refine P_ld 102 (.int (i32 v1)) rfl (fun _ => rfl) ?_
    refine P_ld 103 (.int (i32 v3)) rfl (fun _ => rfl) ?_
    refine P_ld 104 (.int (i32 1)) rfl (fun _ => rfl) ?_
    refine P_op 105 (cut (v3 + 1)) _ rfl (fun _ => rfl) o_add ?_
    refine P_op 106 (cut (v1 + (cut (v3 + 1)))) _ rfl (fun _ => rfl) o_add ?_
    refine P_sto 107 [(1, .int (i32 (cut (v1 + (cut (v3 + 1)))))), (0, .ref 189), (2, .int (i32 v2)), (3, .int (i32 v3)), (4, .int (i32 v4)), (5, .int (i32 (j 5)))] rfl (fun _ => rfl) ?_
    refine P_inc 110 [(2, .int (i32 (cut (v2 + 1)))), (1, .int (i32 (cut (v1 + (cut (v3 + 1)))))), (0, .ref 189), (3, .int (i32 v3)), (4, .int (i32 v4)), (5, .int (i32 (j 5)))] rfl rfl (by decide) rfl rfl ?_
    refine P_goto 4 rfl (fun _ => rfl) ?_
    refine P_some ?_
    refine P_lv (b := [(0, .ref 189), (1, .int (i32 (cut (v1 + (cut (v3 + 1)))))), (2, .int (i32 (cut (v2 + 1)))), (3, .int (i32 v3)), (4, .int (i32 v4)), (5, .int (i32 (j 5)))]) rfl rfl ⟨rfl, rfl, rfl, rfl, rfl, rfl, trivial⟩ ?_
    exact H1 (cut (v1 + (cut (v3 + 1))), cut (v2 + 1)) (jk [(3, v3), (4, v4), (5, j 5)]) ⟨cut_r, cut_r⟩
  · skip
    refine P_some ?_
    exact H2 (.inl v2) (jk [(1, v1), (3, v3), (4, v4), (5, j 5)]) q2
def rfl_givenHere_86 (v1 : Int) (v2 : Int) (v3 : Int) (v5 : Int) (u0 : Int) (m : mR) : Option (Sum (Int × Int) (Int)) :=
  some (.inl (u0, cut (v5 + 1)))
theorem dg_givenHere_86 (w : wX) (c : Nat → Option am_C) (N D : Nat) (bb : Nat) (v1 : Int) (v2 : Int) (v3 : Int) (v5 : Int) (u0 : Int) (q1 : R32 v1) (q2 : R32 v2) (q3 : R32 v3) (q5 : R32 v5) (r0 : R32 u0) (m : mR) (hm : Cn m) (j : Nat → Int) (Q2 : Sum (Int × Int) (Int) → ag_Re af_T → Prop) (H1 : ∀ s j, cs_givenHere_46 s → PP bb w D pm_228 (hd_givenHere_46 c N v1 v2 v3 m s j) (Q2 (.inl s))) (H2 : ∀ x j, cx_givenHere_46 x → PP bb w D pm_228 (ex_givenHere_46 c N v1 v2 v3 m x j) (Q2 (.inr x))) : PP bb w D pm_228 (86, [(0, .ref 189), (1, .int (i32 v1)), (2, .int (i32 v2)), (3, .int (i32 v3)), (4, .int (i32 (j 4))), (5, .int (i32 v5))], [.int (i32 u0)], (mhp m c, N), 0, 0) (QS Q2 (rfl_givenHere_86 v1 v2 v3 v5 u0 m)) := by
  unfold rfl_givenHere_86
  show PP bb w D pm_228 (86, [(0, .ref 189), (1, .int (i32 v1)), (2, .int (i32 v2)), (3, .int (i32 v3)), (4, .int (i32 (j 4))), (5, .int (i32 v5))], [.int (i32 u0)], (mhp (mO m [] []) c, N), 0, 0) _
  refine P_sto 88 [(4, .int (i32 u0)), (0, .ref 189), (1, .int (i32 v1)), (2, .int (i32 v2)), (3, .int (i32 v3)), (5, .int (i32 v5))] rfl (fun _ => rfl) ?_
  refine P_inc 91 [(5, .int (i32 (cut (v5 + 1)))), (4, .int (i32 u0)), (0, .ref 189), (1, .int (i32 v1)), (2, .int (i32 v2)), (3, .int (i32 v3))] rfl rfl (by decide) rfl rfl ?_
  refine P_goto 46 rfl (fun _ => rfl) ?_
  refine P_some ?_
  refine P_lv (b := [(0, .ref 189), (1, .int (i32 v1)), (2, .int (i32 v2)), (3, .int (i32 v3)), (4, .int (i32 u0)), (5, .int (i32 (cut (v5 + 1))))]) rfl rfl ⟨rfl, rfl, rfl, rfl, rfl, rfl, trivial⟩ ?_
  exact H1 (u0, cut (v5 + 1)) (jk []) ⟨r0, cut_r⟩
def rfb_givenHere_46 (v1 : Int) (v2 : Int) (v3 : Int) (m : mR) (s : Int × Int) : Option (Sum (Int × Int) (Int)) :=
  if v3 ≤ s.2 then
    some (.inr s.1)
  else
    if s.1 = 0 then
      some (.inr s.1)
    else
      if (m.2 4) (cut ((m.1 8) + s.2)) = (m.2 18) (cut (v1 + s.2)) then
        rfl_givenHere_86 v1 v2 v3 s.2 1 m
      else
        rfl_givenHere_86 v1 v2 v3 s.2 0 m
theorem dh_givenHere_46 (w : wX) (c : Nat → Option am_C) (N D : Nat) (v1 : Int) (v2 : Int) (v3 : Int) (q1 : R32 v1) (q2 : R32 v2) (q3 : R32 v3) (m : mR) (hm : Cn m) (bb : Nat) (Q2 : Sum (Int × Int) (Int) → ag_Re af_T → Prop) (H1 : ∀ s j, cs_givenHere_46 s → PP bb w D pm_228 (hd_givenHere_46 c N v1 v2 v3 m s j) (Q2 (.inl s))) (H2 : ∀ x j, cx_givenHere_46 x → PP bb w D pm_228 (ex_givenHere_46 c N v1 v2 v3 m x j) (Q2 (.inr x))) (s : Int × Int) (j : Nat → Int) (hs : cs_givenHere_46 s) : PP (bb + 1) w D pm_228 (hd_givenHere_46 c N v1 v2 v3 m s j) (QS Q2 (rfb_givenHere_46 v1 v2 v3 m s)) := by
  obtain ⟨g4, g5⟩ := hs
  unfold rfb_givenHere_46
  show PP (bb + 1) w D pm_228 (46, [(0, .ref 189), (1, .int (i32 v1)), (2, .int (i32 v2)), (3, .int (i32 v3)), (4, .int (i32 s.1)), (5, .int (i32 s.2))], [], (mhp (mO m [] []) c, N), 0, 0) _
  refine P1_ld 48 (.int (i32 s.2)) rfl (fun _ => rfl) ?_
  refine P_ld 49 (.int (i32 v3)) rfl (fun _ => rfl) ?_
  refine P_icF 94 52 rfl rfl rfl g5 q3 rfl (fun h6 => ?_) (fun h6 => ?_)
  · skip
    refine P_some ?_
    exact H2 s.1 (jk [(5, s.2)]) g4
  · skip
    refine P_ld 54 (.int (i32 s.1)) rfl (fun _ => rfl) ?_
    refine P_ifF 94 57 rfl rfl rfl g4 rfl (fun h7 => ?_) (fun h7 => ?_)
    · skip
      refine P_some ?_
      exact H2 s.1 (jk [(5, s.2)]) g4
    · skip
      refine P_gf 61 (.ref 193) rfl rfl rfl rfl rfl rfl ?_
      refine P_gf 65 (.int (i32 (m.1 8))) rfl rfl rfl rfl rfl rfl ?_
      refine P_ld 67 (.int (i32 s.2)) rfl (fun _ => rfl) ?_
      refine P_op 68 (cut ((m.1 8) + s.2)) _ rfl (fun _ => rfl) o_add ?_
      refine P_iald2 69 4 (m.2 4) rfl rfl rfl cut_r rfl ?_
      refine P_gf 73 (.ref 198) rfl rfl rfl rfl rfl rfl ?_
      refine P_ld 74 (.int (i32 v1)) rfl (fun _ => rfl) ?_
      refine P_ld 76 (.int (i32 s.2)) rfl (fun _ => rfl) ?_
      refine P_op 77 (cut (v1 + s.2)) _ rfl (fun _ => rfl) o_add ?_
      refine P_iald2 78 18 (m.2 18) rfl rfl rfl cut_r rfl ?_
      refine P_icE 85 81 rfl rfl rfl (rE_i (Cn_a hm 4) rfl _) (rE_i (Cn_a hm 18) rfl _) rfl (fun h8 => ?_) (fun h8 => ?_)
      · skip
        refine P_ld 82 (.int (i32 1)) rfl (fun _ => rfl) ?_
        refine P_goto 86 rfl (fun _ => rfl) ?_
        exact dg_givenHere_86 w c N D bb v1 v2 v3 s.2 1 q1 q2 q3 g5 (l32 1 rfl) m hm (jk [(4, s.1)]) Q2 H1 H2
      · skip
        refine P_ld 86 (.int (i32 0)) rfl (fun _ => rfl) ?_
        exact dg_givenHere_86 w c N D bb v1 v2 v3 s.2 0 q1 q2 q3 g5 (l32 0 rfl) m hm (jk [(4, s.1)]) Q2 H1 H2
def rfl_givenHere_41 (v1 : Int) (v2 : Int) (v3 : Int) (u0 : Int) (m : mR) : Option (Sum (Int × Int) (Sum (Int) (Unit))) :=
  bnd (whl (rfb_givenHere_46 v1 v2 v3 m) (u0, 0)) (fun e9 : Int =>
    rfl_givenHere_94 v1 v2 v3 e9 m)
theorem dg_givenHere_41 (w : wX) (c : Nat → Option am_C) (N D : Nat) (bb : Nat) (v1 : Int) (v2 : Int) (v3 : Int) (u0 : Int) (q1 : R32 v1) (q2 : R32 v2) (q3 : R32 v3) (r0 : R32 u0) (m : mR) (hm : Cn m) (j : Nat → Int) (Q2 : Sum (Int × Int) (Sum (Int) (Unit)) → ag_Re af_T → Prop) (H1 : ∀ s j, cs_givenHere_4 s → PP bb w D pm_228 (hd_givenHere_4 c N m s j) (Q2 (.inl s))) (H2 : ∀ x j, cx_givenHere_4 x → PP bb w D pm_228 (ex_givenHere_4 c N m x j) (Q2 (.inr x))) : PP bb w D pm_228 (41, [(0, .ref 189), (1, .int (i32 v1)), (2, .int (i32 v2)), (3, .int (i32 v3)), (4, .int (i32 (j 4))), (5, .int (i32 (j 5)))], [.int (i32 u0)], (mhp m c, N), 0, 0) (QS Q2 (rfl_givenHere_41 v1 v2 v3 u0 m)) := by
  unfold rfl_givenHere_41
  show PP bb w D pm_228 (41, [(0, .ref 189), (1, .int (i32 v1)), (2, .int (i32 v2)), (3, .int (i32 v3)), (4, .int (i32 (j 4))), (5, .int (i32 (j 5)))], [.int (i32 u0)], (mhp (mO m [] []) c, N), 0, 0) _
  refine P_sto 43 [(4, .int (i32 u0)), (0, .ref 189), (1, .int (i32 v1)), (2, .int (i32 v2)), (3, .int (i32 v3)), (5, .int (i32 (j 5)))] rfl (fun _ => rfl) ?_
  refine P_ld 44 (.int (i32 0)) rfl (fun _ => rfl) ?_
  refine P_sto 46 [(5, .int (i32 0)), (4, .int (i32 u0)), (0, .ref 189), (1, .int (i32 v1)), (2, .int (i32 v2)), (3, .int (i32 v3))] rfl (fun _ => rfl) ?_
  refine P_lv (b := [(0, .ref 189), (1, .int (i32 v1)), (2, .int (i32 v2)), (3, .int (i32 v3)), (4, .int (i32 u0)), (5, .int (i32 0))]) rfl rfl ⟨rfl, rfl, rfl, rfl, rfl, rfl, trivial⟩ ?_
  refine P_bnd ?_
  refine P_whl (fun bb Q2 H1 H2 s9 j9 hs9 => dh_givenHere_46 w c N D v1 v2 v3 q1 q2 q3 m hm bb Q2 H1 H2 s9 j9 hs9) bb (fun e9 j q10 => ?_) (u0, 0) (jk []) ⟨r0, (l32 0 rfl)⟩
  have q11 := q10
  show PP bb w D pm_228 (94, [(0, .ref 189), (1, .int (i32 v1)), (2, .int (i32 v2)), (3, .int (i32 v3)), (4, .int (i32 e9)), (5, .int (i32 (j 5)))], [], (mhp (mO m [] []) c, N), 0, 0) (QS _ (rfl_givenHere_94 v1 v2 v3 e9 m))
  exact dg_givenHere_94 w c N D bb v1 v2 v3 e9 q1 q2 q3 q11 m hm (jk [(5, j 5)]) Q2 H1 H2
def rfl_givenHere_28 (v1 : Int) (v2 : Int) (v3 : Int) (m : mR) : Option (Sum (Int × Int) (Sum (Int) (Unit))) :=
  if v3 = m.1 9 then
    rfl_givenHere_41 v1 v2 v3 1 m
  else
    rfl_givenHere_41 v1 v2 v3 0 m
theorem dg_givenHere_28 (w : wX) (c : Nat → Option am_C) (N D : Nat) (bb : Nat) (v1 : Int) (v2 : Int) (v3 : Int) (q1 : R32 v1) (q2 : R32 v2) (q3 : R32 v3) (m : mR) (hm : Cn m) (j : Nat → Int) (Q2 : Sum (Int × Int) (Sum (Int) (Unit)) → ag_Re af_T → Prop) (H1 : ∀ s j, cs_givenHere_4 s → PP bb w D pm_228 (hd_givenHere_4 c N m s j) (Q2 (.inl s))) (H2 : ∀ x j, cx_givenHere_4 x → PP bb w D pm_228 (ex_givenHere_4 c N m x j) (Q2 (.inr x))) : PP bb w D pm_228 (28, [(0, .ref 189), (1, .int (i32 v1)), (2, .int (i32 v2)), (3, .int (i32 v3)), (4, .int (i32 (j 4))), (5, .int (i32 (j 5)))], [], (mhp m c, N), 0, 0) (QS Q2 (rfl_givenHere_28 v1 v2 v3 m)) := by
  unfold rfl_givenHere_28
  show PP bb w D pm_228 (28, [(0, .ref 189), (1, .int (i32 v1)), (2, .int (i32 v2)), (3, .int (i32 v3)), (4, .int (i32 (j 4))), (5, .int (i32 (j 5)))], [], (mhp (mO m [] []) c, N), 0, 0) _
  refine P_ld 29 (.int (i32 v3)) rfl (fun _ => rfl) ?_
  refine P_gf 33 (.int (i32 (m.1 9))) rfl rfl rfl rfl rfl rfl ?_
  refine P_icE 40 36 rfl rfl rfl q3 (Cn_i hm 9 rfl) rfl (fun h12 => ?_) (fun h12 => ?_)
  · skip
    refine P_ld 37 (.int (i32 1)) rfl (fun _ => rfl) ?_
    refine P_goto 41 rfl (fun _ => rfl) ?_
    exact dg_givenHere_41 w c N D bb v1 v2 v3 1 q1 q2 q3 (l32 1 rfl) m hm (jk [(4, j 4), (5, j 5)]) Q2 H1 H2
  · skip
    refine P_ld 41 (.int (i32 0)) rfl (fun _ => rfl) ?_
    exact dg_givenHere_41 w c N D bb v1 v2 v3 0 q1 q2 q3 (l32 0 rfl) m hm (jk [(4, j 4), (5, j 5)]) Q2 H1 H2
def rfb_givenHere_11 (v1 : Int) (v2 : Int) (m : mR) (s : Int) : Option (Sum (Int) (Int)) :=
  if (m.2 18) (cut (v1 + s)) ≤ 0 then
    some (.inr s)
  else
    some (.inl (cut (s + 1)))
theorem dh_givenHere_11 (w : wX) (c : Nat → Option am_C) (N D : Nat) (v1 : Int) (v2 : Int) (q1 : R32 v1) (q2 : R32 v2) (m : mR) (hm : Cn m) (bb : Nat) (Q2 : Sum (Int) (Int) → ag_Re af_T → Prop) (H1 : ∀ s j, cs_givenHere_11 s → PP bb w D pm_228 (hd_givenHere_11 c N v1 v2 m s j) (Q2 (.inl s))) (H2 : ∀ x j, cx_givenHere_11 x → PP bb w D pm_228 (ex_givenHere_11 c N v1 v2 m x j) (Q2 (.inr x))) (s : Int) (j : Nat → Int) (hs : cs_givenHere_11 s) : PP (bb + 1) w D pm_228 (hd_givenHere_11 c N v1 v2 m s j) (QS Q2 (rfb_givenHere_11 v1 v2 m s)) := by
  have g3 := hs
  unfold rfb_givenHere_11
  show PP (bb + 1) w D pm_228 (11, [(0, .ref 189), (1, .int (i32 v1)), (2, .int (i32 v2)), (3, .int (i32 s)), (4, .int (i32 (j 4))), (5, .int (i32 (j 5)))], [], (mhp (mO m [] []) c, N), 0, 0) _
  refine P1_ld 12 (.ref 189) rfl (fun _ => rfl) ?_
  refine P_gf1 15 (.ref 198) rfl rfl rfl rfl ?_
  refine P_ld 16 (.int (i32 v1)) rfl (fun _ => rfl) ?_
  refine P_ld 17 (.int (i32 s)) rfl (fun _ => rfl) ?_
  refine P_op 18 (cut (v1 + s)) _ rfl (fun _ => rfl) o_add ?_
  refine P_iald2 19 18 (m.2 18) rfl rfl rfl cut_r rfl ?_
  refine P_ifF 28 22 rfl rfl rfl (rE_i (Cn_a hm 18) rfl _) rfl (fun h14 => ?_) (fun h14 => ?_)
  · skip
    refine P_some ?_
    exact H2 s (jk [(4, j 4), (5, j 5)]) g3
  · skip
    refine P_inc 25 [(3, .int (i32 (cut (s + 1)))), (0, .ref 189), (1, .int (i32 v1)), (2, .int (i32 v2)), (4, .int (i32 (j 4))), (5, .int (i32 (j 5)))] rfl rfl (by decide) rfl rfl ?_
    refine P_goto 11 rfl (fun _ => rfl) ?_
    refine P_some ?_
    refine P_lv (b := [(0, .ref 189), (1, .int (i32 v1)), (2, .int (i32 v2)), (3, .int (i32 (cut (s + 1)))), (4, .int (i32 (j 4))), (5, .int (i32 (j 5)))]) rfl rfl ⟨rfl, rfl, rfl, rfl, rfl, rfl, trivial⟩ ?_
    exact H1 (cut (s + 1)) (jk [(4, j 4), (5, j 5)]) cut_r
def rfb_givenHere_4 (m : mR) (s : Int × Int) : Option (Sum (Int × Int) (Sum (Int) (Unit))) :=
  if (5 : Int) ≤ s.2 then
    some (.inr (.inr ()))
  else
    bnd (whl (rfb_givenHere_11 s.1 s.2 m) 0) (fun e17 : Int =>
      rfl_givenHere_28 s.1 s.2 e17 m)
theorem dh_givenHere_4 (w : wX) (c : Nat → Option am_C) (N D : Nat) (m : mR) (hm : Cn m) (bb : Nat) (Q2 : Sum (Int × Int) (Sum (Int) (Unit)) → ag_Re af_T → Prop) (H1 : ∀ s j, cs_givenHere_4 s → PP bb w D pm_228 (hd_givenHere_4 c N m s j) (Q2 (.inl s))) (H2 : ∀ x j, cx_givenHere_4 x → PP bb w D pm_228 (ex_givenHere_4 c N m x j) (Q2 (.inr x))) (s : Int × Int) (j : Nat → Int) (hs : cs_givenHere_4 s) : PP (bb + 1) w D pm_228 (hd_givenHere_4 c N m s j) (QS Q2 (rfb_givenHere_4 m s)) := by
  obtain ⟨g1, g2⟩ := hs
  unfold rfb_givenHere_4
  show PP (bb + 1) w D pm_228 (4, [(0, .ref 189), (1, .int (i32 s.1)), (2, .int (i32 s.2)), (3, .int (i32 (j 3))), (4, .int (i32 (j 4))), (5, .int (i32 (j 5)))], [], (mhp (mO m [] []) c, N), 0, 0) _
  refine P1_ld 5 (.int (i32 s.2)) rfl (fun _ => rfl) ?_
  refine P_ld 6 (.int (i32 5)) rfl (fun _ => rfl) ?_
  refine P_icF 113 9 rfl rfl rfl g2 (l32 5 rfl) rfl (fun h16 => ?_) (fun h16 => ?_)
  · skip
    refine P_some ?_
    exact H2 (.inr ()) (jk [(1, s.1), (2, s.2), (3, j 3), (4, j 4), (5, j 5)]) trivial
  · skip
    refine P_ld 10 (.int (i32 0)) rfl (fun _ => rfl) ?_
    refine P_sto 11 [(3, .int (i32 0)), (0, .ref 189), (1, .int (i32 s.1)), (2, .int (i32 s.2)), (4, .int (i32 (j 4))), (5, .int (i32 (j 5)))] rfl (fun _ => rfl) ?_
    refine P_lv (b := [(0, .ref 189), (1, .int (i32 s.1)), (2, .int (i32 s.2)), (3, .int (i32 0)), (4, .int (i32 (j 4))), (5, .int (i32 (j 5)))]) rfl rfl ⟨rfl, rfl, rfl, rfl, rfl, rfl, trivial⟩ ?_
    refine P_bnd ?_
    refine P_whl (fun bb Q2 H1 H2 s9 j9 hs9 => dh_givenHere_11 w c N D s.1 s.2 g1 g2 m hm bb Q2 H1 H2 s9 j9 hs9) bb (fun e17 j q18 => ?_) 0 (jk [(4, j 4), (5, j 5)]) (l32 0 rfl)
    have q19 := q18
    show PP bb w D pm_228 (28, [(0, .ref 189), (1, .int (i32 s.1)), (2, .int (i32 s.2)), (3, .int (i32 e17)), (4, .int (i32 (j 4))), (5, .int (i32 (j 5)))], [], (mhp (mO m [] []) c, N), 0, 0) (QS _ (rfl_givenHere_28 s.1 s.2 e17 m))
    exact dg_givenHere_28 w c N D bb s.1 s.2 e17 g1 g2 q19 m hm (jk [(4, j 4), (5, j 5)]) Q2 H1 H2
def rf_givenHere (m : mR) : Option Int :=
  bnd (whl (rfb_givenHere_4 m) (0, 0)) (sel
    (fun e20 : Int =>
      some e20)
    (fun e23 : Unit =>
      some (-1)))
theorem D_givenHere (w : wX) (m : mR) (c : Nat → Option am_C) (N D : Nat) (hm : Cn m) : PC w D 228 [.ref 189] (mhp m c, N) (QS (FP1 (mhp m c, N)) (rf_givenHere m)) := by
  refine Pc_of (fun D bb => ?_) D
  unfold rf_givenHere
  show PP bb w D pm_228 (0, [(0, .ref 189)], [], (mhp (mO m [] []) c, N), 0, 0) _
  refine P_ld 1 (.int (i32 0)) rfl (fun _ => rfl) ?_
  refine P_sto 2 [(1, .int (i32 0)), (0, .ref 189)] rfl (fun _ => rfl) ?_
  refine P_ld 3 (.int (i32 0)) rfl (fun _ => rfl) ?_
  refine P_sto 4 [(2, .int (i32 0)), (1, .int (i32 0)), (0, .ref 189)] rfl (fun _ => rfl) ?_
  refine P_lv (b := [(0, .ref 189), (1, .int (i32 0)), (2, .int (i32 0)), (3, .int (i32 0)), (4, .int (i32 0)), (5, .int (i32 0))]) rfl rfl ⟨rfl, rfl, rfl, trivial⟩ ?_
  refine P_bnd ?_
  refine P_whl (fun bb Q2 H1 H2 s9 j9 hs9 => dh_givenHere_4 w c N D m hm bb Q2 H1 H2 s9 j9 hs9) bb (fun x0 j hx0 => ?_) (0, 0) (jk []) ⟨(l32 0 rfl), (l32 0 rfl)⟩
  cases x0 with
  | inl e20 =>
    have q21 := hx0
    have q22 := q21
    show PP bb w D pm_228 (99, [(0, .ref 189), (1, .int (i32 (j 1))), (2, .int (i32 e20)), (3, .int (i32 (j 3))), (4, .int (i32 (j 4))), (5, .int (i32 (j 5)))], [], (mhp (mO m [] []) c, N), 0, 0) (QS _ (some e20))
    refine P_ld 100 (.int (i32 e20)) rfl (fun _ => rfl) ?_
    exact P_rp1 rfl q22
  | inr e23 =>
    have q24 := hx0
    show PP bb w D pm_228 (113, [(0, .ref 189), (1, .int (i32 (j 1))), (2, .int (i32 (j 2))), (3, .int (i32 (j 3))), (4, .int (i32 (j 4))), (5, .int (i32 (j 5)))], [], (mhp (mO m [] []) c, N), 0, 0) (QS _ (some (-1)))
    refine P_ld 114 (.int (i32 (-1))) rfl (fun _ => rfl) ?_
    exact P_rp1 rfl (l32 (-1) rfl)
def cs_isHere_17 (s : Int × Int) : Prop := R32 s.1 ∧ R32 s.2
def cx_isHere_17 : (Int) → Prop := (fun (e : Int) => R32 e)
def hd_isHere_17 (c : Nat → Option am_C) (N : Nat) (v1 : Int) (v2 : Int) (m : mR) (s : Int × Int) (j : Nat → Int) : ag_St af_T := (17, [(0, .ref 189), (1, .int (i32 v1)), (2, .int (i32 v2)), (3, .int (i32 s.1)), (4, .int (i32 s.2))], [], (mhp m c, N), 0, 0)
def ex_isHere_17 (c : Nat → Option am_C) (N : Nat) (v1 : Int) (v2 : Int) (m : mR) : (Int) → (Nat → Int) → ag_St af_T := (fun (e : Int) (j : Nat → Int) => ((63, [(0, .ref 189), (1, .int (i32 (j 1))), (2, .int (i32 (j 2))), (3, .int (i32 e)), (4, .int (i32 (j 4)))], [], (mhp m c, N), 0, 0) : ag_St af_T))
def rfl_isHere_56 (v1 : Int) (v2 : Int) (v4 : Int) (u0 : Int) (m : mR) : Option (Sum (Int × Int) (Int)) :=
  some (.inl (u0, cut (v4 + 1)))
theorem dg_isHere_56 (w : wX) (c : Nat → Option am_C) (N D : Nat) (bb : Nat) (v1 : Int) (v2 : Int) (v4 : Int) (u0 : Int) (q1 : R32 v1) (q2 : R32 v2) (q4 : R32 v4) (r0 : R32 u0) (m : mR) (hm : Cn m) (j : Nat → Int) (Q2 : Sum (Int × Int) (Int) → ag_Re af_T → Prop) (H1 : ∀ s j, cs_isHere_17 s → PP bb w D pm_230 (hd_isHere_17 c N v1 v2 m s j) (Q2 (.inl s))) (H2 : ∀ x j, cx_isHere_17 x → PP bb w D pm_230 (ex_isHere_17 c N v1 v2 m x j) (Q2 (.inr x))) : PP bb w D pm_230 (56, [(0, .ref 189), (1, .int (i32 v1)), (2, .int (i32 v2)), (3, .int (i32 (j 3))), (4, .int (i32 v4))], [.int (i32 u0)], (mhp m c, N), 0, 0) (QS Q2 (rfl_isHere_56 v1 v2 v4 u0 m)) := by
  unfold rfl_isHere_56
  show PP bb w D pm_230 (56, [(0, .ref 189), (1, .int (i32 v1)), (2, .int (i32 v2)), (3, .int (i32 (j 3))), (4, .int (i32 v4))], [.int (i32 u0)], (mhp (mO m [] []) c, N), 0, 0) _
  refine P_sto 57 [(3, .int (i32 u0)), (0, .ref 189), (1, .int (i32 v1)), (2, .int (i32 v2)), (4, .int (i32 v4))] rfl (fun _ => rfl) ?_
  refine P_inc 60 [(4, .int (i32 (cut (v4 + 1)))), (3, .int (i32 u0)), (0, .ref 189), (1, .int (i32 v1)), (2, .int (i32 v2))] rfl rfl (by decide) rfl rfl ?_
  refine P_goto 17 rfl (fun _ => rfl) ?_
  refine P_some ?_
  refine P_lv (b := [(0, .ref 189), (1, .int (i32 v1)), (2, .int (i32 v2)), (3, .int (i32 u0)), (4, .int (i32 (cut (v4 + 1))))]) rfl rfl ⟨rfl, rfl, rfl, rfl, rfl, trivial⟩ ?_
  exact H1 (u0, cut (v4 + 1)) (jk []) ⟨r0, cut_r⟩
def rfb_isHere_17 (v1 : Int) (v2 : Int) (m : mR) (s : Int × Int) : Option (Sum (Int × Int) (Int)) :=
  if v2 ≤ s.2 then
    some (.inr s.1)
  else
    if s.1 = 0 then
      some (.inr s.1)
    else
      if (m.2 4) (cut (v1 + s.2)) = (m.2 4) (cut ((m.1 8) + s.2)) then
        rfl_isHere_56 v1 v2 s.2 1 m
      else
        rfl_isHere_56 v1 v2 s.2 0 m
theorem dh_isHere_17 (w : wX) (c : Nat → Option am_C) (N D : Nat) (v1 : Int) (v2 : Int) (q1 : R32 v1) (q2 : R32 v2) (m : mR) (hm : Cn m) (bb : Nat) (Q2 : Sum (Int × Int) (Int) → ag_Re af_T → Prop) (H1 : ∀ s j, cs_isHere_17 s → PP bb w D pm_230 (hd_isHere_17 c N v1 v2 m s j) (Q2 (.inl s))) (H2 : ∀ x j, cx_isHere_17 x → PP bb w D pm_230 (ex_isHere_17 c N v1 v2 m x j) (Q2 (.inr x))) (s : Int × Int) (j : Nat → Int) (hs : cs_isHere_17 s) : PP (bb + 1) w D pm_230 (hd_isHere_17 c N v1 v2 m s j) (QS Q2 (rfb_isHere_17 v1 v2 m s)) := by
  obtain ⟨g3, g4⟩ := hs
  unfold rfb_isHere_17
  show PP (bb + 1) w D pm_230 (17, [(0, .ref 189), (1, .int (i32 v1)), (2, .int (i32 v2)), (3, .int (i32 s.1)), (4, .int (i32 s.2))], [], (mhp (mO m [] []) c, N), 0, 0) _
  refine P1_ld 19 (.int (i32 s.2)) rfl (fun _ => rfl) ?_
  refine P_ld 20 (.int (i32 v2)) rfl (fun _ => rfl) ?_
  refine P_icF 63 23 rfl rfl rfl g4 q2 rfl (fun h3 => ?_) (fun h3 => ?_)
  · skip
    refine P_some ?_
    exact H2 s.1 (jk [(1, v1), (2, v2), (4, s.2)]) g3
  · skip
    refine P_ld 24 (.int (i32 s.1)) rfl (fun _ => rfl) ?_
    refine P_ifF 63 27 rfl rfl rfl g3 rfl (fun h4 => ?_) (fun h4 => ?_)
    · skip
      refine P_some ?_
      exact H2 s.1 (jk [(1, v1), (2, v2), (4, s.2)]) g3
    · skip
      refine P_gf 31 (.ref 193) rfl rfl rfl rfl rfl rfl ?_
      refine P_ld 32 (.int (i32 v1)) rfl (fun _ => rfl) ?_
      refine P_ld 34 (.int (i32 s.2)) rfl (fun _ => rfl) ?_
      refine P_op 35 (cut (v1 + s.2)) _ rfl (fun _ => rfl) o_add ?_
      refine P_iald2 36 4 (m.2 4) rfl rfl rfl cut_r rfl ?_
      refine P_gf 40 (.ref 193) rfl rfl rfl rfl rfl rfl ?_
      refine P_gf 44 (.int (i32 (m.1 8))) rfl rfl rfl rfl rfl rfl ?_
      refine P_ld 46 (.int (i32 s.2)) rfl (fun _ => rfl) ?_
      refine P_op 47 (cut ((m.1 8) + s.2)) _ rfl (fun _ => rfl) o_add ?_
      refine P_iald2 48 4 (m.2 4) rfl rfl rfl cut_r rfl ?_
      refine P_icE 55 51 rfl rfl rfl (rE_i (Cn_a hm 4) rfl _) (rE_i (Cn_a hm 4) rfl _) rfl (fun h5 => ?_) (fun h5 => ?_)
      · skip
        refine P_ld 52 (.int (i32 1)) rfl (fun _ => rfl) ?_
        refine P_goto 56 rfl (fun _ => rfl) ?_
        exact dg_isHere_56 w c N D bb v1 v2 s.2 1 q1 q2 g4 (l32 1 rfl) m hm (jk [(3, s.1)]) Q2 H1 H2
      · skip
        refine P_ld 56 (.int (i32 0)) rfl (fun _ => rfl) ?_
        exact dg_isHere_56 w c N D bb v1 v2 s.2 0 q1 q2 g4 (l32 0 rfl) m hm (jk [(3, s.1)]) Q2 H1 H2
def rfl_isHere_13 (v1 : Int) (v2 : Int) (u0 : Int) (m : mR) : Option Int :=
  bnd (whl (rfb_isHere_17 v1 v2 m) (u0, 0)) (fun e6 : Int =>
    some e6)
theorem dg_isHere_13 (w : wX) (c : Nat → Option am_C) (N D : Nat) (bb : Nat) (v1 : Int) (v2 : Int) (u0 : Int) (q1 : R32 v1) (q2 : R32 v2) (r0 : R32 u0) (m : mR) (hm : Cn m) (j : Nat → Int) : PP bb w D pm_230 (13, [(0, .ref 189), (1, .int (i32 v1)), (2, .int (i32 v2))], [.int (i32 u0)], (mhp m c, N), 0, 0) (QS (FP1 (mhp m c, N)) (rfl_isHere_13 v1 v2 u0 m)) := by
  unfold rfl_isHere_13
  show PP bb w D pm_230 (13, [(0, .ref 189), (1, .int (i32 v1)), (2, .int (i32 v2))], [.int (i32 u0)], (mhp (mO m [] []) c, N), 0, 0) _
  refine P_sto 14 [(3, .int (i32 u0)), (0, .ref 189), (1, .int (i32 v1)), (2, .int (i32 v2))] rfl (fun _ => rfl) ?_
  refine P_ld 15 (.int (i32 0)) rfl (fun _ => rfl) ?_
  refine P_sto 17 [(4, .int (i32 0)), (3, .int (i32 u0)), (0, .ref 189), (1, .int (i32 v1)), (2, .int (i32 v2))] rfl (fun _ => rfl) ?_
  refine P_lv (b := [(0, .ref 189), (1, .int (i32 v1)), (2, .int (i32 v2)), (3, .int (i32 u0)), (4, .int (i32 0))]) rfl rfl ⟨rfl, rfl, rfl, rfl, rfl, trivial⟩ ?_
  refine P_bnd ?_
  refine P_whl (fun bb Q2 H1 H2 s9 j9 hs9 => dh_isHere_17 w c N D v1 v2 q1 q2 m hm bb Q2 H1 H2 s9 j9 hs9) bb (fun e6 j q7 => ?_) (u0, 0) (jk []) ⟨r0, (l32 0 rfl)⟩
  have q8 := q7
  show PP bb w D pm_230 (63, [(0, .ref 189), (1, .int (i32 (j 1))), (2, .int (i32 (j 2))), (3, .int (i32 e6)), (4, .int (i32 (j 4)))], [], (mhp (mO m [] []) c, N), 0, 0) (QS _ (some e6))
  refine P_ld 64 (.int (i32 e6)) rfl (fun _ => rfl) ?_
  exact P_rp1 rfl q8
def rf_isHere (v1 : Int) (v2 : Int) (m : mR) : Option Int :=
  if v2 = m.1 9 then
    rfl_isHere_13 v1 v2 1 m
  else
    rfl_isHere_13 v1 v2 0 m
theorem D_isHere (w : wX) (m : mR) (c : Nat → Option am_C) (N D : Nat) (hm : Cn m) (v1 : Int) (v2 : Int) (q1 : R32 v1) (q2 : R32 v2) : PC w D 230 [.ref 189, .int (i32 v1), .int (i32 v2)] (mhp m c, N) (QS (FP1 (mhp m c, N)) (rf_isHere v1 v2 m)) := by
  refine Pc_of (fun D bb => ?_) D
  unfold rf_isHere
  show PP bb w D pm_230 (0, [(0, .ref 189), (1, .int (i32 v1)), (2, .int (i32 v2))], [], (mhp (mO m [] []) c, N), 0, 0) _
  refine P_ld 1 (.int (i32 v2)) rfl (fun _ => rfl) ?_
  refine P_gf 5 (.int (i32 (m.1 9))) rfl rfl rfl rfl rfl rfl ?_
  refine P_icE 12 8 rfl rfl rfl q2 (Cn_i hm 9 rfl) rfl (fun h9 => ?_) (fun h9 => ?_)
  · skip
    refine P_ld 9 (.int (i32 1)) rfl (fun _ => rfl) ?_
    refine P_goto 13 rfl (fun _ => rfl) ?_
    exact dg_isHere_13 w c N D bb v1 v2 1 q1 q2 (l32 1 rfl) m hm (jk [])
  · skip
    refine P_ld 13 (.int (i32 0)) rfl (fun _ => rfl) ?_
    exact dg_isHere_13 w c N D bb v1 v2 0 q1 q2 (l32 0 rfl) m hm (jk [])
def cs_findHere_4 (s : Int × Int) : Prop := R32 s.1 ∧ R32 s.2
def cx_findHere_4 : (Int) → Prop := (fun (e : Int) => R32 e)
def hd_findHere_4 (c : Nat → Option am_C) (N : Nat) (m : mR) (s : Int × Int) (j : Nat → Int) : ag_St af_T := (4, [(0, .ref 189), (1, .int (i32 s.1)), (2, .int (i32 s.2))], [], (mhp m c, N), 0, 0)
def ex_findHere_4 (c : Nat → Option am_C) (N : Nat) (m : mR) : (Int) → (Nat → Int) → ag_St af_T := (fun (e : Int) (j : Nat → Int) => ((43, [(0, .ref 189), (1, .int (i32 e)), (2, .int (i32 (j 2)))], [], (mhp m c, N), 0, 0) : ag_St af_T))
def rfl_findHere_36 (v2 : Int) (u0 : Int) (m : mR) : Option (Sum (Int × Int) (Int)) :=
  some (.inl (u0, cut (v2 + 1)))
theorem dg_findHere_36 (w : wX) (c : Nat → Option am_C) (N D : Nat) (bb : Nat) (v2 : Int) (u0 : Int) (q2 : R32 v2) (r0 : R32 u0) (m : mR) (hm : Cn m) (j : Nat → Int) (Q2 : Sum (Int × Int) (Int) → ag_Re af_T → Prop) (H1 : ∀ s j, cs_findHere_4 s → PP bb w D pm_229 (hd_findHere_4 c N m s j) (Q2 (.inl s))) (H2 : ∀ x j, cx_findHere_4 x → PP bb w D pm_229 (ex_findHere_4 c N m x j) (Q2 (.inr x))) : PP bb w D pm_229 (36, [(0, .ref 189), (1, .int (i32 (j 1))), (2, .int (i32 v2))], [.int (i32 u0)], (mhp m c, N), 0, 0) (QS Q2 (rfl_findHere_36 v2 u0 m)) := by
  unfold rfl_findHere_36
  show PP bb w D pm_229 (36, [(0, .ref 189), (1, .int (i32 (j 1))), (2, .int (i32 v2))], [.int (i32 u0)], (mhp (mO m [] []) c, N), 0, 0) _
  refine P_sto 37 [(1, .int (i32 u0)), (0, .ref 189), (2, .int (i32 v2))] rfl (fun _ => rfl) ?_
  refine P_inc 40 [(2, .int (i32 (cut (v2 + 1)))), (1, .int (i32 u0)), (0, .ref 189)] rfl rfl (by decide) rfl rfl ?_
  refine P_goto 4 rfl (fun _ => rfl) ?_
  refine P_some ?_
  refine P_lv (b := [(0, .ref 189), (1, .int (i32 u0)), (2, .int (i32 (cut (v2 + 1))))]) rfl rfl ⟨rfl, rfl, rfl, trivial⟩ ?_
  exact H1 (u0, cut (v2 + 1)) (jk []) ⟨r0, cut_r⟩
def rfb_findHere_4 (m : mR) (s : Int × Int) : Option (Sum (Int × Int) (Int)) :=
  if m.1 13 ≤ s.2 then
    some (.inr s.1)
  else
    bnd (rf_isHere ((m.2 14) s.2) ((m.2 15) s.2) m) fun y4 =>
    if y4 = 0 then
      rfl_findHere_36 s.2 s.1 m
    else
      rfl_findHere_36 s.2 s.2 m
theorem dh_findHere_4 (w : wX) (c : Nat → Option am_C) (N D : Nat) (m : mR) (hm : Cn m) (bb : Nat) (Q2 : Sum (Int × Int) (Int) → ag_Re af_T → Prop) (H1 : ∀ s j, cs_findHere_4 s → PP bb w D pm_229 (hd_findHere_4 c N m s j) (Q2 (.inl s))) (H2 : ∀ x j, cx_findHere_4 x → PP bb w D pm_229 (ex_findHere_4 c N m x j) (Q2 (.inr x))) (s : Int × Int) (j : Nat → Int) (hs : cs_findHere_4 s) : PP (bb + 1) w D pm_229 (hd_findHere_4 c N m s j) (QS Q2 (rfb_findHere_4 m s)) := by
  obtain ⟨g1, g2⟩ := hs
  unfold rfb_findHere_4
  show PP (bb + 1) w D pm_229 (4, [(0, .ref 189), (1, .int (i32 s.1)), (2, .int (i32 s.2))], [], (mhp (mO m [] []) c, N), 0, 0) _
  refine P1_ld 5 (.int (i32 s.2)) rfl (fun _ => rfl) ?_
  refine P_gf 9 (.int (i32 (m.1 13))) rfl rfl rfl rfl rfl rfl ?_
  refine P_icF 43 12 rfl rfl rfl g2 (Cn_i hm 13 rfl) rfl (fun h3 => ?_) (fun h3 => ?_)
  · skip
    refine P_some ?_
    exact H2 s.1 (jk [(2, s.2)]) g1
  · skip
    refine P_ld 13 (.ref 189) rfl (fun _ => rfl) ?_
    refine P_gf 17 (.ref 194) rfl rfl rfl rfl rfl rfl ?_
    refine P_ld 18 (.int (i32 s.2)) rfl (fun _ => rfl) ?_
    refine P_iald2 19 14 (m.2 14) rfl rfl rfl g2 rfl ?_
    refine P_gf 23 (.ref 195) rfl rfl rfl rfl rfl rfl ?_
    refine P_ld 24 (.int (i32 s.2)) rfl (fun _ => rfl) ?_
    refine P_iald2 25 15 (m.2 15) rfl rfl rfl g2 rfl ?_
    refine P_cp1 28 230 [.ref 189, .int (i32 ((m.2 14) s.2)), .int (i32 ((m.2 15) s.2))] [] rfl (fun _ => rfl) rfl (D_isHere w m c N D hm ((m.2 14) s.2) ((m.2 15) s.2) (rE_i (Cn_a hm 14) rfl _) (rE_i (Cn_a hm 15) rfl _)) (fun y4 h5 => ?_)
    refine P_ifF 35 31 rfl rfl rfl h5 rfl (fun h6 => ?_) (fun h6 => ?_)
    · skip
      refine P_ld 36 (.int (i32 s.1)) rfl (fun _ => rfl) ?_
      exact dg_findHere_36 w c N D bb s.2 s.1 g2 g1 m hm (jk [(1, s.1)]) Q2 H1 H2
    · skip
      refine P_ld 32 (.int (i32 s.2)) rfl (fun _ => rfl) ?_
      refine P_goto 36 rfl (fun _ => rfl) ?_
      exact dg_findHere_36 w c N D bb s.2 s.2 g2 g2 m hm (jk [(1, s.1)]) Q2 H1 H2
def rf_findHere (m : mR) : Option Int :=
  bnd (whl (rfb_findHere_4 m) ((-1), 0)) (fun e7 : Int =>
    some e7)
theorem D_findHere (w : wX) (m : mR) (c : Nat → Option am_C) (N D : Nat) (hm : Cn m) : PC w D 229 [.ref 189] (mhp m c, N) (QS (FP1 (mhp m c, N)) (rf_findHere m)) := by
  refine Pc_of (fun D bb => ?_) D
  unfold rf_findHere
  show PP bb w D pm_229 (0, [(0, .ref 189)], [], (mhp (mO m [] []) c, N), 0, 0) _
  refine P_ld 1 (.int (i32 (-1))) rfl (fun _ => rfl) ?_
  refine P_sto 2 [(1, .int (i32 (-1))), (0, .ref 189)] rfl (fun _ => rfl) ?_
  refine P_ld 3 (.int (i32 0)) rfl (fun _ => rfl) ?_
  refine P_sto 4 [(2, .int (i32 0)), (1, .int (i32 (-1))), (0, .ref 189)] rfl (fun _ => rfl) ?_
  refine P_lv (b := [(0, .ref 189), (1, .int (i32 (-1))), (2, .int (i32 0))]) rfl rfl ⟨rfl, rfl, rfl, trivial⟩ ?_
  refine P_bnd ?_
  refine P_whl (fun bb Q2 H1 H2 s9 j9 hs9 => dh_findHere_4 w c N D m hm bb Q2 H1 H2 s9 j9 hs9) bb (fun e7 j q8 => ?_) ((-1), 0) (jk []) ⟨(l32 (-1) rfl), (l32 0 rfl)⟩
  have q9 := q8
  show PP bb w D pm_229 (43, [(0, .ref 189), (1, .int (i32 e7)), (2, .int (i32 (j 2)))], [], (mhp (mO m [] []) c, N), 0, 0) (QS _ (some e7))
  refine P_ld 44 (.int (i32 e7)) rfl (fun _ => rfl) ?_
  exact P_rp1 rfl q9
end X26B
