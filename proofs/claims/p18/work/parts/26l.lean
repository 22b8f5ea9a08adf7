noncomputable section X26L
def rfl_openBlock_40 (v1 : Int) (v2 : Int) (m : mR) : Option (Int × mR) :=
  if m.1 10 ≤ 0 then
    some (0, (mO m [(119, cut ((m.1 119) + 1))] [(117, upI (m.2 117) (m.1 119) v1), (118, upI (m.2 118) (m.1 119) v2)]))
  else
    some (0, m)
theorem dg_openBlock_40 (w : wX) (c : Nat → Option am_C) (N D : Nat) (bb : Nat) (v1 : Int) (v2 : Int) (q1 : R32 v1) (q2 : R32 v2) (m : mR) (hm : Cn m) (j : Nat → Int) : PP bb w D pm_280 (40, [(0, .ref 189), (1, .int (i32 v1)), (2, .int (i32 v2))], [], (mhp m c, N), 0, 0) (QS (FR0 c N) (rfl_openBlock_40 v1 v2 m)) := by
  unfold rfl_openBlock_40
  show PP bb w D pm_280 (40, [(0, .ref 189), (1, .int (i32 v1)), (2, .int (i32 v2))], [], (mhp (mO m [] []) c, N), 0, 0) _
  refine P_gf 44 (.int (i32 (m.1 10))) rfl rfl rfl rfl rfl rfl ?_
  refine P_ifF 48 47 rfl rfl rfl (Cn_i hm 10 rfl) rfl (fun h1 => ?_) (fun h1 => ?_)
  · skip
    refine P_gf 52 (.ref 277) rfl rfl rfl rfl rfl rfl ?_
    refine P_gf 56 (.int (i32 (m.1 119))) rfl rfl rfl rfl rfl rfl ?_
    refine P_ld 57 (.int (i32 v1)) rfl (fun _ => rfl) ?_
    refine P_iast2 (a' := [(117, upI (m.2 117) (m.1 119) v1)]) 58 117 (m.2 117) rfl rfl rfl (Cn_i hm 119 rfl) rfl rfl ?_
    refine P_gf 62 (.ref 278) rfl rfl rfl rfl rfl rfl ?_
    refine P_gf 66 (.int (i32 (m.1 119))) rfl rfl rfl rfl rfl rfl ?_
    refine P_ld 67 (.int (i32 v2)) rfl (fun _ => rfl) ?_
    refine P_iast2 (a' := [(117, upI (m.2 117) (m.1 119) v1), (118, upI (m.2 118) (m.1 119) v2)]) 68 118 (m.2 118) rfl rfl rfl (Cn_i hm 119 rfl) rfl rfl ?_
    refine P_ld 69 (.ref 189) rfl (fun _ => rfl) ?_
    refine P_ld 70 (.ref 189) rfl (fun _ => rfl) ?_
    refine P_gf1 73 (.int (i32 (m.1 119))) rfl rfl rfl rfl ?_
    refine P_ld 74 (.int (i32 1)) rfl (fun _ => rfl) ?_
    refine P_op 75 (cut ((m.1 119) + 1)) _ rfl (fun _ => rfl) o_add ?_
    refine P_pf (l' := [(119, cut ((m.1 119) + 1))]) 78 (cut ((m.1 119) + 1)) rfl rfl rfl rfl rfl rfl ?_
    exact P_re0 rfl rfl (Cn_mO hm ⟨(rV_i rfl cut_r), trivial⟩ ⟨(rE_ui (Cn_a hm 117) rfl q1), (rE_ui (Cn_a hm 118) rfl q2), trivial⟩)
  · skip
    exact P_re0 rfl rfl hm
def rfl_openBlock_34 (v1 : Int) (v2 : Int) (m : mR) : Option (Int × mR) :=
  bnd (rf_need 123 m) fun y2 =>
  rfl_openBlock_40 v1 v2 y2.2
theorem dg_openBlock_34 (w : wX) (c : Nat → Option am_C) (N D : Nat) (bb : Nat) (v1 : Int) (v2 : Int) (q1 : R32 v1) (q2 : R32 v2) (m : mR) (hm : Cn m) (j : Nat → Int) : PP bb w D pm_280 (34, [(0, .ref 189), (1, .int (i32 v1)), (2, .int (i32 v2))], [], (mhp m c, N), 0, 0) (QS (FR0 c N) (rfl_openBlock_34 v1 v2 m)) := by
  unfold rfl_openBlock_34
  show PP bb w D pm_280 (34, [(0, .ref 189), (1, .int (i32 v1)), (2, .int (i32 v2))], [], (mhp (mO m [] []) c, N), 0, 0) _
  refine P_ld 35 (.ref 189) rfl (fun _ => rfl) ?_
  refine P_ld 37 (.int (i32 123)) rfl (fun _ => rfl) ?_
  refine P_ca0 40 232 [.ref 189, .int (i32 123)] [] rfl (fun _ => rfl) rfl (D_need w m c N D hm 123 (l32 123 rfl)) (fun y2 n4 => ?_)
  exact dg_openBlock_40 w c N D bb v1 v2 q1 q2 y2.2 n4 (jk [])
def rf_openBlock (v1 : Int) (v2 : Int) (m : mR) : Option (Int × mR) :=
  if m.1 10 = 0 then
    if m.1 7 = 123 then
      if m.1 119 = 8 then
        bnd (rf_wrong 4 (m.1 8) m) fun y8 =>
        rfl_openBlock_34 v1 v2 y8.2
      else
        rfl_openBlock_34 v1 v2 m
    else
      rfl_openBlock_34 v1 v2 m
  else
    rfl_openBlock_34 v1 v2 m
theorem D_openBlock (w : wX) (m : mR) (c : Nat → Option am_C) (N D : Nat) (hm : Cn m) (v1 : Int) (v2 : Int) (q1 : R32 v1) (q2 : R32 v2) : PC w D 280 [.ref 189, .int (i32 v1), .int (i32 v2)] (mhp m c, N) (QS (FR0 c N) (rf_openBlock v1 v2 m)) := by
  refine Pc_of (fun D bb => ?_) D
  unfold rf_openBlock
  show PP bb w D pm_280 (0, [(0, .ref 189), (1, .int (i32 v1)), (2, .int (i32 v2))], [], (mhp (mO m [] []) c, N), 0, 0) _
  refine P_gf 4 (.int (i32 (m.1 10))) rfl rfl rfl rfl rfl rfl ?_
  refine P_ifE 34 7 rfl rfl rfl (Cn_i hm 10 rfl) rfl (fun h5 => ?_) (fun h5 => ?_)
  · skip
    refine P_gf 11 (.int (i32 (m.1 7))) rfl rfl rfl rfl rfl rfl ?_
    refine P_ld 13 (.int (i32 123)) rfl (fun _ => rfl) ?_
    refine P_icE 34 16 rfl rfl rfl (Cn_i hm 7 rfl) (l32 123 rfl) rfl (fun h6 => ?_) (fun h6 => ?_)
    · skip
      refine P_gf 20 (.int (i32 (m.1 119))) rfl rfl rfl rfl rfl rfl ?_
      refine P_ld 22 (.int (i32 8)) rfl (fun _ => rfl) ?_
      refine P_icE 34 25 rfl rfl rfl (Cn_i hm 119 rfl) (l32 8 rfl) rfl (fun h7 => ?_) (fun h7 => ?_)
      · skip
        refine P_ld 26 (.ref 189) rfl (fun _ => rfl) ?_
        refine P_ld 27 (.int (i32 4)) rfl (fun _ => rfl) ?_
        refine P_gf 31 (.int (i32 (m.1 8))) rfl rfl rfl rfl rfl rfl ?_
        refine P_ca0 34 222 [.ref 189, .int (i32 4), .int (i32 (m.1 8))] [] rfl (fun _ => rfl) rfl (D_wrong w m c N D hm 4 (m.1 8) (l32 4 rfl) (Cn_i hm 8 rfl)) (fun y8 n10 => ?_)
        exact dg_openBlock_34 w c N D bb v1 v2 q1 q2 y8.2 n10 (jk [])
      · skip
        exact dg_openBlock_34 w c N D bb v1 v2 q1 q2 m hm (jk [])
    · skip
      exact dg_openBlock_34 w c N D bb v1 v2 q1 q2 m hm (jk [])
  · skip
    exact dg_openBlock_34 w c N D bb v1 v2 q1 q2 m hm (jk [])
def rfl_newStep_18 (v1 : Int) (m : mR) : Option (Int × mR) :=
  if m.1 10 ≤ 0 then
    some (cut ((cut ((m.1 27) + 1)) - 1), (mO m [(27, cut ((m.1 27) + 1))] [(60, upI (m.2 60) (m.1 27) v1), (61, upI (m.2 61) (m.1 27) ((m.2 117) (cut ((m.1 119) - 1)))), (62, upI (m.2 62) (m.1 27) ((m.2 118) (cut ((m.1 119) - 1)))), (63, upI (m.2 63) (m.1 27) (-1))]))
  else
    some (0, m)
theorem dg_newStep_18 (w : wX) (c : Nat → Option am_C) (N D : Nat) (bb : Nat) (v1 : Int) (q1 : R32 v1) (m : mR) (hm : Cn m) (j : Nat → Int) : PP bb w D pm_281 (18, [(0, .ref 189), (1, .int (i32 v1))], [], (mhp m c, N), 0, 0) (QS (FR1 c N) (rfl_newStep_18 v1 m)) := by
  unfold rfl_newStep_18
  show PP bb w D pm_281 (18, [(0, .ref 189), (1, .int (i32 v1))], [], (mhp (mO m [] []) c, N), 0, 0) _
  refine P_gf 22 (.int (i32 (m.1 10))) rfl rfl rfl rfl rfl rfl ?_
  refine P_ifF 27 25 rfl rfl rfl (Cn_i hm 10 rfl) rfl (fun h1 => ?_) (fun h1 => ?_)
  · skip
    refine P_gf 31 (.ref 230) rfl rfl rfl rfl rfl rfl ?_
    refine P_gf 35 (.int (i32 (m.1 27))) rfl rfl rfl rfl rfl rfl ?_
    refine P_ld 36 (.int (i32 v1)) rfl (fun _ => rfl) ?_
    refine P_iast2 (a' := [(60, upI (m.2 60) (m.1 27) v1)]) 37 60 (m.2 60) rfl rfl rfl (Cn_i hm 27 rfl) rfl rfl ?_
    refine P_gf 41 (.ref 231) rfl rfl rfl rfl rfl rfl ?_
    refine P_gf 45 (.int (i32 (m.1 27))) rfl rfl rfl rfl rfl rfl ?_
    refine P_gf 49 (.ref 277) rfl rfl rfl rfl rfl rfl ?_
    refine P_gf 53 (.int (i32 (m.1 119))) rfl rfl rfl rfl rfl rfl ?_
    refine P_ld 54 (.int (i32 1)) rfl (fun _ => rfl) ?_
    refine P_op 55 (cut ((m.1 119) - 1)) _ rfl (fun _ => rfl) o_sub ?_
    refine P_iald2 56 117 (m.2 117) rfl rfl rfl cut_r rfl ?_
    refine P_iast2 (a' := [(60, upI (m.2 60) (m.1 27) v1), (61, upI (m.2 61) (m.1 27) ((m.2 117) (cut ((m.1 119) - 1))))]) 57 61 (m.2 61) rfl rfl rfl (Cn_i hm 27 rfl) rfl rfl ?_
    refine P_gf 61 (.ref 232) rfl rfl rfl rfl rfl rfl ?_
    refine P_gf 65 (.int (i32 (m.1 27))) rfl rfl rfl rfl rfl rfl ?_
    refine P_gf 69 (.ref 278) rfl rfl rfl rfl rfl rfl ?_
    refine P_gf 73 (.int (i32 (m.1 119))) rfl rfl rfl rfl rfl rfl ?_
    refine P_ld 74 (.int (i32 1)) rfl (fun _ => rfl) ?_
    refine P_op 75 (cut ((m.1 119) - 1)) _ rfl (fun _ => rfl) o_sub ?_
    refine P_iald2 76 118 (m.2 118) rfl rfl rfl cut_r rfl ?_
    refine P_iast2 (a' := [(60, upI (m.2 60) (m.1 27) v1), (61, upI (m.2 61) (m.1 27) ((m.2 117) (cut ((m.1 119) - 1)))), (62, upI (m.2 62) (m.1 27) ((m.2 118) (cut ((m.1 119) - 1))))]) 77 62 (m.2 62) rfl rfl rfl (Cn_i hm 27 rfl) rfl rfl ?_
    refine P_gf 81 (.ref 233) rfl rfl rfl rfl rfl rfl ?_
    refine P_gf 85 (.int (i32 (m.1 27))) rfl rfl rfl rfl rfl rfl ?_
    refine P_ld 86 (.int (i32 (-1))) rfl (fun _ => rfl) ?_
    refine P_iast2 (a' := [(60, upI (m.2 60) (m.1 27) v1), (61, upI (m.2 61) (m.1 27) ((m.2 117) (cut ((m.1 119) - 1)))), (62, upI (m.2 62) (m.1 27) ((m.2 118) (cut ((m.1 119) - 1)))), (63, upI (m.2 63) (m.1 27) (-1))]) 87 63 (m.2 63) rfl rfl rfl (Cn_i hm 27 rfl) rfl rfl ?_
    refine P_ld 88 (.ref 189) rfl (fun _ => rfl) ?_
    refine P_ld 89 (.ref 189) rfl (fun _ => rfl) ?_
    refine P_gf1 92 (.int (i32 (m.1 27))) rfl rfl rfl rfl ?_
    refine P_ld 93 (.int (i32 1)) rfl (fun _ => rfl) ?_
    refine P_op 94 (cut ((m.1 27) + 1)) _ rfl (fun _ => rfl) o_add ?_
    refine P_pf (l' := [(27, cut ((m.1 27) + 1))]) 97 (cut ((m.1 27) + 1)) rfl rfl rfl rfl rfl rfl ?_
    refine P_gf 101 (.int (i32 (cut ((m.1 27) + 1)))) rfl rfl rfl rfl rfl rfl ?_
    refine P_ld 102 (.int (i32 1)) rfl (fun _ => rfl) ?_
    refine P_op 103 (cut ((cut ((m.1 27) + 1)) - 1)) _ rfl (fun _ => rfl) o_sub ?_
    exact P_re1 rfl cut_r (Cn_mO hm ⟨(rV_i rfl cut_r), trivial⟩ ⟨(rE_ui (Cn_a hm 60) rfl q1), (rE_ui (Cn_a hm 61) rfl (rE_i (Cn_a hm 117) rfl _)), (rE_ui (Cn_a hm 62) rfl (rE_i (Cn_a hm 118) rfl _)), (rE_ui (Cn_a hm 63) rfl (l32 (-1) rfl)), trivial⟩)
  · skip
    refine P_ld 26 (.int (i32 0)) rfl (fun _ => rfl) ?_
    exact P_re1 rfl (l32 0 rfl) hm
def rf_newStep (v1 : Int) (m : mR) : Option (Int × mR) :=
  if m.1 27 = 48 then
    bnd (rf_wrong 4 (m.1 8) m) fun y3 =>
    rfl_newStep_18 v1 y3.2
  else
    rfl_newStep_18 v1 m
theorem D_newStep (w : wX) (m : mR) (c : Nat → Option am_C) (N D : Nat) (hm : Cn m) (v1 : Int) (q1 : R32 v1) : PC w D 281 [.ref 189, .int (i32 v1)] (mhp m c, N) (QS (FR1 c N) (rf_newStep v1 m)) := by
  refine Pc_of (fun D bb => ?_) D
  unfold rf_newStep
  show PP bb w D pm_281 (0, [(0, .ref 189), (1, .int (i32 v1))], [], (mhp (mO m [] []) c, N), 0, 0) _
  refine P_gf 4 (.int (i32 (m.1 27))) rfl rfl rfl rfl rfl rfl ?_
  refine P_ld 6 (.int (i32 48)) rfl (fun _ => rfl) ?_
  refine P_icE 18 9 rfl rfl rfl (Cn_i hm 27 rfl) (l32 48 rfl) rfl (fun h2 => ?_) (fun h2 => ?_)
  · skip
    refine P_ld 10 (.ref 189) rfl (fun _ => rfl) ?_
    refine P_ld 11 (.int (i32 4)) rfl (fun _ => rfl) ?_
    refine P_gf 15 (.int (i32 (m.1 8))) rfl rfl rfl rfl rfl rfl ?_
    refine P_ca0 18 222 [.ref 189, .int (i32 4), .int (i32 (m.1 8))] [] rfl (fun _ => rfl) rfl (D_wrong w m c N D hm 4 (m.1 8) (l32 4 rfl) (Cn_i hm 8 rfl)) (fun y3 n5 => ?_)
    exact dg_newStep_18 w c N D bb v1 q1 y3.2 n5 (jk [])
  · skip
    exact dg_newStep_18 w c N D bb v1 q1 m hm (jk [])
def rfl_closeBlock_69 (v1 : Int) (m : mR) : Option (Int × mR) :=
  bnd (rf_openBlock v1 0 m) fun y1 =>
  some (0, y1.2)
theorem dg_closeBlock_69 (w : wX) (c : Nat → Option am_C) (N D : Nat) (bb : Nat) (v1 : Int) (q1 : R32 v1) (m : mR) (hm : Cn m) (j : Nat → Int) : PP bb w D pm_282 (69, [(0, .ref 189), (1, .int (i32 v1))], [], (mhp m c, N), 0, 0) (QS (FR0 c N) (rfl_closeBlock_69 v1 m)) := by
  unfold rfl_closeBlock_69
  show PP bb w D pm_282 (69, [(0, .ref 189), (1, .int (i32 v1))], [], (mhp (mO m [] []) c, N), 0, 0) _
  refine P_ld 70 (.ref 189) rfl (fun _ => rfl) ?_
  refine P_ld 71 (.int (i32 v1)) rfl (fun _ => rfl) ?_
  refine P_ld 72 (.int (i32 0)) rfl (fun _ => rfl) ?_
  refine P_ca0 75 280 [.ref 189, .int (i32 v1), .int (i32 0)] [] rfl (fun _ => rfl) rfl (D_openBlock w m c N D hm v1 0 q1 (l32 0 rfl)) (fun y1 n3 => ?_)
  exact P_re0 rfl rfl n3
def rfl_closeBlock_6 (m : mR) : Option (Int × mR) :=
  if m.1 10 ≤ 0 then
    if cut ((m.1 119) - 1) = 0 then
      some (0, (mO m [(119, cut ((m.1 119) - 1))] []))
    else
      if (m.2 118) (cut ((m.1 119) - 1)) = 1 then
        if m.1 7 = 322 then
          bnd (rf_next (mO m [(119, cut ((m.1 119) - 1))] [])) fun y8 =>
          rfl_closeBlock_69 ((m.2 117) (cut ((m.1 119) - 1))) y8.2
        else
          some (0, (mO m [(119, cut ((m.1 119) - 1))] []))
      else
        some (0, (mO m [(119, cut ((m.1 119) - 1))] []))
  else
    some (0, m)
theorem dg_closeBlock_6 (w : wX) (c : Nat → Option am_C) (N D : Nat) (bb : Nat) (m : mR) (hm : Cn m) (j : Nat → Int) : PP bb w D pm_282 (6, [(0, .ref 189)], [], (mhp m c, N), 0, 0) (QS (FR0 c N) (rfl_closeBlock_6 m)) := by
  unfold rfl_closeBlock_6
  show PP bb w D pm_282 (6, [(0, .ref 189)], [], (mhp (mO m [] []) c, N), 0, 0) _
  refine P_gf 10 (.int (i32 (m.1 10))) rfl rfl rfl rfl rfl rfl ?_
  refine P_ifF 14 13 rfl rfl rfl (Cn_i hm 10 rfl) rfl (fun h4 => ?_) (fun h4 => ?_)
  · skip
    refine P_ld 15 (.ref 189) rfl (fun _ => rfl) ?_
    refine P_ld 16 (.ref 189) rfl (fun _ => rfl) ?_
    refine P_gf1 19 (.int (i32 (m.1 119))) rfl rfl rfl rfl ?_
    refine P_ld 20 (.int (i32 1)) rfl (fun _ => rfl) ?_
    refine P_op 21 (cut ((m.1 119) - 1)) _ rfl (fun _ => rfl) o_sub ?_
    refine P_pf (l' := [(119, cut ((m.1 119) - 1))]) 24 (cut ((m.1 119) - 1)) rfl rfl rfl rfl rfl rfl ?_
    refine P_gf 28 (.int (i32 (cut ((m.1 119) - 1)))) rfl rfl rfl rfl rfl rfl ?_
    refine P_ifF 54 31 rfl rfl rfl cut_r rfl (fun h5 => ?_) (fun h5 => ?_)
    · skip
      exact P_re0 rfl rfl (Cn_mO hm ⟨(rV_i rfl cut_r), trivial⟩ trivial)
    · skip
      refine P_gf 35 (.ref 278) rfl rfl rfl rfl rfl rfl ?_
      refine P_gf 39 (.int (i32 (cut ((m.1 119) - 1)))) rfl rfl rfl rfl rfl rfl ?_
      refine P_iald2 40 118 (m.2 118) rfl rfl rfl cut_r rfl ?_
      refine P_ld 41 (.int (i32 1)) rfl (fun _ => rfl) ?_
      refine P_icE 54 44 rfl rfl rfl (rE_i (Cn_a hm 118) rfl _) (l32 1 rfl) rfl (fun h6 => ?_) (fun h6 => ?_)
      · skip
        refine P_gf 48 (.int (i32 (m.1 7))) rfl rfl rfl rfl rfl rfl ?_
        refine P_ld 51 (.int (i32 322)) rfl (fun _ => rfl) ?_
        refine P_icF 55 54 rfl rfl rfl (Cn_i hm 7 rfl) (l32 322 rfl) rfl (fun h7 => ?_) (fun h7 => ?_)
        · skip
          refine P_gf 59 (.ref 277) rfl rfl rfl rfl rfl rfl ?_
          refine P_gf 63 (.int (i32 (cut ((m.1 119) - 1)))) rfl rfl rfl rfl rfl rfl ?_
          refine P_iald2 64 117 (m.2 117) rfl rfl rfl cut_r rfl ?_
          refine P_sto 65 [(1, .int (i32 ((m.2 117) (cut ((m.1 119) - 1))))), (0, .ref 189)] rfl (fun _ => rfl) ?_
          refine P_ld 66 (.ref 189) rfl (fun _ => rfl) ?_
          refine P_ca0 69 212 [.ref 189] [] rfl (fun _ => rfl) rfl (D_next w (mO m [(119, cut ((m.1 119) - 1))] []) c N D (Cn_mO hm ⟨(rV_i rfl cut_r), trivial⟩ trivial)) (fun y8 n10 => ?_)
          refine P_lv (b := [(0, .ref 189), (1, .int (i32 ((m.2 117) (cut ((m.1 119) - 1)))))]) rfl rfl ⟨rfl, rfl, trivial⟩ ?_
          exact dg_closeBlock_69 w c N D bb ((m.2 117) (cut ((m.1 119) - 1))) (rE_i (Cn_a hm 117) rfl _) y8.2 n10 (jk [])
        · skip
          exact P_re0 rfl rfl (Cn_mO hm ⟨(rV_i rfl cut_r), trivial⟩ trivial)
      · skip
        exact P_re0 rfl rfl (Cn_mO hm ⟨(rV_i rfl cut_r), trivial⟩ trivial)
  · skip
    exact P_re0 rfl rfl hm
def rf_closeBlock (m : mR) : Option (Int × mR) :=
  bnd (rf_need 125 m) fun y11 =>
  rfl_closeBlock_6 y11.2
theorem D_closeBlock (w : wX) (m : mR) (c : Nat → Option am_C) (N D : Nat) (hm : Cn m) : PC w D 282 [.ref 189] (mhp m c, N) (QS (FR0 c N) (rf_closeBlock m)) := by
  refine Pc_of (fun D bb => ?_) D
  unfold rf_closeBlock
  show PP bb w D pm_282 (0, [(0, .ref 189)], [], (mhp (mO m [] []) c, N), 0, 0) _
  refine P_ld 1 (.ref 189) rfl (fun _ => rfl) ?_
  refine P_ld 3 (.int (i32 125)) rfl (fun _ => rfl) ?_
  refine P_ca0 6 232 [.ref 189, .int (i32 125)] [] rfl (fun _ => rfl) rfl (D_need w m c N D hm 125 (l32 125 rfl)) (fun y11 n13 => ?_)
  exact dg_closeBlock_6 w c N D bb y11.2 n13 (jk [])
def cs_takeControl_18 (s : mR) : Prop := Cn s
def cx_takeControl_18 : (Sum (mR) (mR)) → Prop := (sel (fun (e : mR) => Cn e) (fun (e : mR) => Cn e))
def hd_takeControl_18 (c : Nat → Option am_C) (N : Nat) (s : mR) (j : Nat → Int) : ag_St af_T := (18, [(0, .ref 189), (1, .int (i32 (j 1))), (2, .int (i32 (j 2))), (3, .int (i32 (j 3)))], [], (mhp s c, N), 0, 0)
def ex_takeControl_18 (c : Nat → Option am_C) (N : Nat) : (Sum (mR) (mR)) → (Nat → Int) → ag_St af_T := (sel (fun (e : mR) (j : Nat → Int) => ((137, [(0, .ref 189), (1, .int (i32 (j 1))), (2, .int (i32 (j 2))), (3, .int (i32 (j 3)))], [], (mhp e c, N), 0, 0) : ag_St af_T)) (fun (e : mR) (j : Nat → Int) => ((249, [(0, .ref 189), (1, .int (i32 (j 1))), (2, .int (i32 (j 2))), (3, .int (i32 (j 3)))], [], (mhp e c, N), 0, 0) : ag_St af_T)))
def rfl_takeControl_233 (v1 : Int) (m : mR) : Option (Sum (mR) (Sum (mR) (mR))) :=
  bnd (rf_openBlock v1 1 m) fun y3 =>
  some (.inl y3.2)
theorem dg_takeControl_233 (w : wX) (c : Nat → Option am_C) (N D : Nat) (bb : Nat) (v1 : Int) (q1 : R32 v1) (m : mR) (hm : Cn m) (j : Nat → Int) (Q2 : Sum (mR) (Sum (mR) (mR)) → ag_Re af_T → Prop) (H1 : ∀ s j, cs_takeControl_18 s → PP bb w D pm_279 (hd_takeControl_18 c N s j) (Q2 (.inl s))) (H2 : ∀ x j, cx_takeControl_18 x → PP bb w D pm_279 (ex_takeControl_18 c N x j) (Q2 (.inr x))) : PP bb w D pm_279 (233, [(0, .ref 189), (1, .int (i32 v1)), (2, .int (i32 (j 2))), (3, .int (i32 (j 3)))], [], (mhp m c, N), 0, 0) (QS Q2 (rfl_takeControl_233 v1 m)) := by
  unfold rfl_takeControl_233
  show PP bb w D pm_279 (233, [(0, .ref 189), (1, .int (i32 v1)), (2, .int (i32 (j 2))), (3, .int (i32 (j 3)))], [], (mhp (mO m [] []) c, N), 0, 0) _
  refine P_ld 234 (.ref 189) rfl (fun _ => rfl) ?_
  refine P_ld 235 (.int (i32 v1)) rfl (fun _ => rfl) ?_
  refine P_ld 236 (.int (i32 1)) rfl (fun _ => rfl) ?_
  refine P_ca0 239 280 [.ref 189, .int (i32 v1), .int (i32 1)] [] rfl (fun _ => rfl) rfl (D_openBlock w m c N D hm v1 1 q1 (l32 1 rfl)) (fun y3 n5 => ?_)
  refine P_goto 18 rfl (fun _ => rfl) ?_
  refine P_some ?_
  exact H1 y3.2 (jk [(1, v1), (2, j 2), (3, j 3)]) n5
def rfl_takeControl_196 (v1 : Int) (m : mR) : Option (Sum (mR) (Sum (mR) (mR))) :=
  if m.1 10 = 0 then
    bnd (rf_wantBit (m.1 69) (m.1 71) (m.1 72) (m.1 70) (mO m [] [(122, upI (m.2 122) v1 (m.1 28))])) fun y7 =>
    rfl_takeControl_233 v1 y7.2
  else
    rfl_takeControl_233 v1 (mO m [] [(122, upI (m.2 122) v1 (m.1 28))])
theorem dg_takeControl_196 (w : wX) (c : Nat → Option am_C) (N D : Nat) (bb : Nat) (v1 : Int) (q1 : R32 v1) (m : mR) (hm : Cn m) (j : Nat → Int) (Q2 : Sum (mR) (Sum (mR) (mR)) → ag_Re af_T → Prop) (H1 : ∀ s j, cs_takeControl_18 s → PP bb w D pm_279 (hd_takeControl_18 c N s j) (Q2 (.inl s))) (H2 : ∀ x j, cx_takeControl_18 x → PP bb w D pm_279 (ex_takeControl_18 c N x j) (Q2 (.inr x))) : PP bb w D pm_279 (196, [(0, .ref 189), (1, .int (i32 v1)), (2, .int (i32 (j 2))), (3, .int (i32 (j 3)))], [], (mhp m c, N), 0, 0) (QS Q2 (rfl_takeControl_196 v1 m)) := by
  unfold rfl_takeControl_196
  show PP bb w D pm_279 (196, [(0, .ref 189), (1, .int (i32 v1)), (2, .int (i32 (j 2))), (3, .int (i32 (j 3)))], [], (mhp (mO m [] []) c, N), 0, 0) _
  refine P_gf 200 (.ref 281) rfl rfl rfl rfl rfl rfl ?_
  refine P_ld 201 (.int (i32 v1)) rfl (fun _ => rfl) ?_
  refine P_gf 205 (.int (i32 (m.1 28))) rfl rfl rfl rfl rfl rfl ?_
  refine P_iast2 (a' := [(122, upI (m.2 122) v1 (m.1 28))]) 206 122 (m.2 122) rfl rfl rfl q1 rfl rfl ?_
  refine P_gf 210 (.int (i32 (m.1 10))) rfl rfl rfl rfl rfl rfl ?_
  refine P_ifE 233 213 rfl rfl rfl (Cn_i hm 10 rfl) rfl (fun h6 => ?_) (fun h6 => ?_)
  · skip
    refine P_ld 214 (.ref 189) rfl (fun _ => rfl) ?_
    refine P_gf 218 (.int (i32 (m.1 69))) rfl rfl rfl rfl rfl rfl ?_
    refine P_gf 222 (.int (i32 (m.1 71))) rfl rfl rfl rfl rfl rfl ?_
    refine P_gf 226 (.long (i64 (m.1 72))) rfl rfl rfl rfl rfl rfl ?_
    refine P_gf 230 (.int (i32 (m.1 70))) rfl rfl rfl rfl rfl rfl ?_
    refine P_ca0 233 258 [.ref 189, .int (i32 (m.1 69)), .int (i32 (m.1 71)), .long (i64 (m.1 72)), .int (i32 (m.1 70))] [] rfl (fun _ => rfl) rfl (D_wantBit w (mO m [] [(122, upI (m.2 122) v1 (m.1 28))]) c N D (Cn_mO hm trivial ⟨(rE_ui (Cn_a hm 122) rfl (Cn_i hm 28 rfl)), trivial⟩) (m.1 69) (m.1 71) (m.1 72) (m.1 70) (Cn_i hm 69 rfl) (Cn_i hm 71 rfl) (Cn_l hm 72 rfl) (Cn_i hm 70 rfl)) (fun y7 n9 => ?_)
    exact dg_takeControl_233 w c N D bb v1 q1 y7.2 n9 (jk [(2, j 2), (3, j 3)]) Q2 H1 H2
  · skip
    exact dg_takeControl_233 w c N D bb v1 q1 (mO m [] [(122, upI (m.2 122) v1 (m.1 28))]) (Cn_mO hm trivial ⟨(rE_ui (Cn_a hm 122) rfl (Cn_i hm 28 rfl)), trivial⟩) (jk [(2, j 2), (3, j 3)]) Q2 H1 H2
def rfl_takeControl_175 (v1 : Int) (m : mR) : Option (Sum (mR) (Sum (mR) (mR))) :=
  if m.1 10 = 0 then
    bnd (rf_readExpr (mO m [] [(121, upI (m.2 121) v1 (m.1 28))])) fun y11 =>
    rfl_takeControl_196 v1 y11.2
  else
    rfl_takeControl_196 v1 (mO m [] [(121, upI (m.2 121) v1 (m.1 28))])
theorem dg_takeControl_175 (w : wX) (c : Nat → Option am_C) (N D : Nat) (bb : Nat) (v1 : Int) (q1 : R32 v1) (m : mR) (hm : Cn m) (j : Nat → Int) (Q2 : Sum (mR) (Sum (mR) (mR)) → ag_Re af_T → Prop) (H1 : ∀ s j, cs_takeControl_18 s → PP bb w D pm_279 (hd_takeControl_18 c N s j) (Q2 (.inl s))) (H2 : ∀ x j, cx_takeControl_18 x → PP bb w D pm_279 (ex_takeControl_18 c N x j) (Q2 (.inr x))) : PP bb w D pm_279 (175, [(0, .ref 189), (1, .int (i32 v1)), (2, .int (i32 (j 2))), (3, .int (i32 (j 3)))], [], (mhp m c, N), 0, 0) (QS Q2 (rfl_takeControl_175 v1 m)) := by
  unfold rfl_takeControl_175
  show PP bb w D pm_279 (175, [(0, .ref 189), (1, .int (i32 v1)), (2, .int (i32 (j 2))), (3, .int (i32 (j 3)))], [], (mhp (mO m [] []) c, N), 0, 0) _
  refine P_gf 179 (.ref 280) rfl rfl rfl rfl rfl rfl ?_
  refine P_ld 180 (.int (i32 v1)) rfl (fun _ => rfl) ?_
  refine P_gf 184 (.int (i32 (m.1 28))) rfl rfl rfl rfl rfl rfl ?_
  refine P_iast2 (a' := [(121, upI (m.2 121) v1 (m.1 28))]) 185 121 (m.2 121) rfl rfl rfl q1 rfl rfl ?_
  refine P_gf 189 (.int (i32 (m.1 10))) rfl rfl rfl rfl rfl rfl ?_
  refine P_ifE 196 192 rfl rfl rfl (Cn_i hm 10 rfl) rfl (fun h10 => ?_) (fun h10 => ?_)
  · skip
    refine P_ld 193 (.ref 189) rfl (fun _ => rfl) ?_
    refine P_ca0 196 244 [.ref 189] [] rfl (fun _ => rfl) rfl (D_readExpr w (mO m [] [(121, upI (m.2 121) v1 (m.1 28))]) c N D (Cn_mO hm trivial ⟨(rE_ui (Cn_a hm 121) rfl (Cn_i hm 28 rfl)), trivial⟩)) (fun y11 n13 => ?_)
    exact dg_takeControl_196 w c N D bb v1 q1 y11.2 n13 (jk [(2, j 2), (3, j 3)]) Q2 H1 H2
  · skip
    exact dg_takeControl_196 w c N D bb v1 q1 (mO m [] [(121, upI (m.2 121) v1 (m.1 28))]) (Cn_mO hm trivial ⟨(rE_ui (Cn_a hm 121) rfl (Cn_i hm 28 rfl)), trivial⟩) (jk [(2, j 2), (3, j 3)]) Q2 H1 H2
def rfl_takeControl_170 (u0 : Int) (m : mR) : Option (Sum (mR) (Sum (mR) (mR))) :=
  bnd (rf_next m) fun y14 =>
  rfl_takeControl_175 u0 y14.2
theorem dg_takeControl_170 (w : wX) (c : Nat → Option am_C) (N D : Nat) (bb : Nat) (u0 : Int) (r0 : R32 u0) (m : mR) (hm : Cn m) (j : Nat → Int) (Q2 : Sum (mR) (Sum (mR) (mR)) → ag_Re af_T → Prop) (H1 : ∀ s j, cs_takeControl_18 s → PP bb w D pm_279 (hd_takeControl_18 c N s j) (Q2 (.inl s))) (H2 : ∀ x j, cx_takeControl_18 x → PP bb w D pm_279 (ex_takeControl_18 c N x j) (Q2 (.inr x))) : PP bb w D pm_279 (170, [(0, .ref 189), (1, .int (i32 (j 1))), (2, .int (i32 (j 2))), (3, .int (i32 (j 3)))], [.int (i32 u0)], (mhp m c, N), 0, 0) (QS Q2 (rfl_takeControl_170 u0 m)) := by
  unfold rfl_takeControl_170
  show PP bb w D pm_279 (170, [(0, .ref 189), (1, .int (i32 (j 1))), (2, .int (i32 (j 2))), (3, .int (i32 (j 3)))], [.int (i32 u0)], (mhp (mO m [] []) c, N), 0, 0) _
  refine P_sto 171 [(1, .int (i32 u0)), (0, .ref 189), (2, .int (i32 (j 2))), (3, .int (i32 (j 3)))] rfl (fun _ => rfl) ?_
  refine P_ld 172 (.ref 189) rfl (fun _ => rfl) ?_
  refine P_ca0 175 212 [.ref 189] [] rfl (fun _ => rfl) rfl (D_next w m c N D hm) (fun y14 n16 => ?_)
  refine P_lv (b := [(0, .ref 189), (1, .int (i32 u0)), (2, .int (i32 (j 2))), (3, .int (i32 (j 3)))]) rfl rfl ⟨rfl, rfl, rfl, rfl, trivial⟩ ?_
  exact dg_takeControl_175 w c N D bb u0 r0 y14.2 n16 (jk [(2, j 2), (3, j 3)]) Q2 H1 H2
def rfl_takeControl_130 (v1 : Int) (v3 : Int) (m : mR) : Option (Sum (mR) (Sum (mR) (mR))) :=
  if m.1 10 ≤ 0 then
    some (.inl (mO m [] [(59, upI (m.2 59) v3 (nar1 1)), (63, upI (m.2 63) v1 v3)]))
  else
    some (.inr (.inl m))
theorem dg_takeControl_130 (w : wX) (c : Nat → Option am_C) (N D : Nat) (bb : Nat) (v1 : Int) (v3 : Int) (q1 : R32 v1) (q3 : R32 v3) (m : mR) (hm : Cn m) (j : Nat → Int) (Q2 : Sum (mR) (Sum (mR) (mR)) → ag_Re af_T → Prop) (H1 : ∀ s j, cs_takeControl_18 s → PP bb w D pm_279 (hd_takeControl_18 c N s j) (Q2 (.inl s))) (H2 : ∀ x j, cx_takeControl_18 x → PP bb w D pm_279 (ex_takeControl_18 c N x j) (Q2 (.inr x))) : PP bb w D pm_279 (130, [(0, .ref 189), (1, .int (i32 v1)), (2, .int (i32 (j 2))), (3, .int (i32 v3))], [], (mhp m c, N), 0, 0) (QS Q2 (rfl_takeControl_130 v1 v3 m)) := by
  unfold rfl_takeControl_130
  show PP bb w D pm_279 (130, [(0, .ref 189), (1, .int (i32 v1)), (2, .int (i32 (j 2))), (3, .int (i32 v3))], [], (mhp (mO m [] []) c, N), 0, 0) _
  refine P_gf 134 (.int (i32 (m.1 10))) rfl rfl rfl rfl rfl rfl ?_
  refine P_ifF 138 137 rfl rfl rfl (Cn_i hm 10 rfl) rfl (fun h17 => ?_) (fun h17 => ?_)
  · skip
    refine P_gf 142 (.ref 229) rfl rfl rfl rfl rfl rfl ?_
    refine P_ld 143 (.int (i32 v3)) rfl (fun _ => rfl) ?_
    refine P_ld 144 (.int (i32 1)) rfl (fun _ => rfl) ?_
    refine P_bast2 (a' := [(59, upI (m.2 59) v3 (nar1 1))]) 145 59 (m.2 59) rfl rfl rfl q3 rfl rfl ?_
    refine P_gf 149 (.ref 233) rfl rfl rfl rfl rfl rfl ?_
    refine P_ld 150 (.int (i32 v1)) rfl (fun _ => rfl) ?_
    refine P_ld 151 (.int (i32 v3)) rfl (fun _ => rfl) ?_
    refine P_iast2 (a' := [(59, upI (m.2 59) v3 (nar1 1)), (63, upI (m.2 63) v1 v3)]) 152 63 (m.2 63) rfl rfl rfl q1 rfl rfl ?_
    refine P_goto 18 rfl (fun _ => rfl) ?_
    refine P_some ?_
    exact H1 (mO m [] [(59, upI (m.2 59) v3 (nar1 1)), (63, upI (m.2 63) v1 v3)]) (jk [(1, v1), (2, j 2), (3, v3)]) (Cn_mO hm trivial ⟨(rE_ui (Cn_a hm 59) rfl t32_r), (rE_ui (Cn_a hm 63) rfl q3), trivial⟩)
  · skip
    refine P_some ?_
    exact H2 (.inl m) (jk [(1, v1), (2, j 2), (3, v3)]) hm
def rfl_takeControl_124 (v1 : Int) (v3 : Int) (m : mR) : Option (Sum (mR) (Sum (mR) (mR))) :=
  bnd (rf_need 59 m) fun y18 =>
  rfl_takeControl_130 v1 v3 y18.2
theorem dg_takeControl_124 (w : wX) (c : Nat → Option am_C) (N D : Nat) (bb : Nat) (v1 : Int) (v3 : Int) (q1 : R32 v1) (q3 : R32 v3) (m : mR) (hm : Cn m) (j : Nat → Int) (Q2 : Sum (mR) (Sum (mR) (mR)) → ag_Re af_T → Prop) (H1 : ∀ s j, cs_takeControl_18 s → PP bb w D pm_279 (hd_takeControl_18 c N s j) (Q2 (.inl s))) (H2 : ∀ x j, cx_takeControl_18 x → PP bb w D pm_279 (ex_takeControl_18 c N x j) (Q2 (.inr x))) : PP bb w D pm_279 (124, [(0, .ref 189), (1, .int (i32 v1)), (2, .int (i32 (j 2))), (3, .int (i32 v3))], [], (mhp m c, N), 0, 0) (QS Q2 (rfl_takeControl_124 v1 v3 m)) := by
  unfold rfl_takeControl_124
  show PP bb w D pm_279 (124, [(0, .ref 189), (1, .int (i32 v1)), (2, .int (i32 (j 2))), (3, .int (i32 v3))], [], (mhp (mO m [] []) c, N), 0, 0) _
  refine P_ld 125 (.ref 189) rfl (fun _ => rfl) ?_
  refine P_ld 127 (.int (i32 59)) rfl (fun _ => rfl) ?_
  refine P_ca0 130 232 [.ref 189, .int (i32 59)] [] rfl (fun _ => rfl) rfl (D_need w m c N D hm 59 (l32 59 rfl)) (fun y18 n20 => ?_)
  exact dg_takeControl_130 w c N D bb v1 v3 q1 q3 y18.2 n20 (jk [(2, j 2)]) Q2 H1 H2
def rfl_takeControl_100 (v1 : Int) (v2 : Int) (u0 : Int) (m : mR) : Option (Sum (mR) (Sum (mR) (mR))) :=
  if m.1 10 = 0 then
    if (m.2 59) u0 = 0 then
      rfl_takeControl_124 v1 u0 m
    else
      bnd (rf_wrong 8 v2 m) fun y23 =>
      rfl_takeControl_124 v1 u0 y23.2
  else
    rfl_takeControl_124 v1 u0 m
theorem dg_takeControl_100 (w : wX) (c : Nat → Option am_C) (N D : Nat) (bb : Nat) (v1 : Int) (v2 : Int) (u0 : Int) (q1 : R32 v1) (q2 : R32 v2) (r0 : R32 u0) (m : mR) (hm : Cn m) (j : Nat → Int) (Q2 : Sum (mR) (Sum (mR) (mR)) → ag_Re af_T → Prop) (H1 : ∀ s j, cs_takeControl_18 s → PP bb w D pm_279 (hd_takeControl_18 c N s j) (Q2 (.inl s))) (H2 : ∀ x j, cx_takeControl_18 x → PP bb w D pm_279 (ex_takeControl_18 c N x j) (Q2 (.inr x))) : PP bb w D pm_279 (100, [(0, .ref 189), (1, .int (i32 v1)), (2, .int (i32 v2)), (3, .int (i32 (j 3)))], [.int (i32 u0)], (mhp m c, N), 0, 0) (QS Q2 (rfl_takeControl_100 v1 v2 u0 m)) := by
  unfold rfl_takeControl_100
  show PP bb w D pm_279 (100, [(0, .ref 189), (1, .int (i32 v1)), (2, .int (i32 v2)), (3, .int (i32 (j 3)))], [.int (i32 u0)], (mhp (mO m [] []) c, N), 0, 0) _
  refine P_sto 101 [(3, .int (i32 u0)), (0, .ref 189), (1, .int (i32 v1)), (2, .int (i32 v2))] rfl (fun _ => rfl) ?_
  refine P_gf 105 (.int (i32 (m.1 10))) rfl rfl rfl rfl rfl rfl ?_
  refine P_ifE 124 108 rfl rfl rfl (Cn_i hm 10 rfl) rfl (fun h21 => ?_) (fun h21 => ?_)
  · skip
    refine P_gf 112 (.ref 229) rfl rfl rfl rfl rfl rfl ?_
    refine P_ld 113 (.int (i32 u0)) rfl (fun _ => rfl) ?_
    refine P_bald2 114 59 (m.2 59) rfl rfl rfl r0 rfl ?_
    refine P_ifF 124 117 rfl rfl rfl (rE_i (Cn_a hm 59) rfl _) rfl (fun h22 => ?_) (fun h22 => ?_)
    · skip
      refine P_lv (b := [(0, .ref 189), (1, .int (i32 v1)), (2, .int (i32 v2)), (3, .int (i32 u0))]) rfl rfl ⟨rfl, rfl, rfl, rfl, trivial⟩ ?_
      exact dg_takeControl_124 w c N D bb v1 u0 q1 r0 m hm (jk [(2, v2)]) Q2 H1 H2
    · skip
      refine P_ld 118 (.ref 189) rfl (fun _ => rfl) ?_
      refine P_ld 120 (.int (i32 8)) rfl (fun _ => rfl) ?_
      refine P_ld 121 (.int (i32 v2)) rfl (fun _ => rfl) ?_
      refine P_ca0 124 222 [.ref 189, .int (i32 8), .int (i32 v2)] [] rfl (fun _ => rfl) rfl (D_wrong w m c N D hm 8 v2 (l32 8 rfl) q2) (fun y23 n25 => ?_)
      refine P_lv (b := [(0, .ref 189), (1, .int (i32 v1)), (2, .int (i32 v2)), (3, .int (i32 u0))]) rfl rfl ⟨rfl, rfl, rfl, rfl, trivial⟩ ?_
      exact dg_takeControl_124 w c N D bb v1 u0 q1 r0 y23.2 n25 (jk [(2, v2)]) Q2 H1 H2
  · skip
    refine P_lv (b := [(0, .ref 189), (1, .int (i32 v1)), (2, .int (i32 v2)), (3, .int (i32 u0))]) rfl rfl ⟨rfl, rfl, rfl, rfl, trivial⟩ ?_
    exact dg_takeControl_124 w c N D bb v1 u0 q1 r0 m hm (jk [(2, v2)]) Q2 H1 H2
def rfl_takeControl_89 (v1 : Int) (m : mR) : Option (Sum (mR) (Sum (mR) (mR))) :=
  bnd (rf_oldName 7 m) fun y26 =>
  rfl_takeControl_100 v1 (m.1 8) y26.1 y26.2
theorem dg_takeControl_89 (w : wX) (c : Nat → Option am_C) (N D : Nat) (bb : Nat) (v1 : Int) (q1 : R32 v1) (m : mR) (hm : Cn m) (j : Nat → Int) (Q2 : Sum (mR) (Sum (mR) (mR)) → ag_Re af_T → Prop) (H1 : ∀ s j, cs_takeControl_18 s → PP bb w D pm_279 (hd_takeControl_18 c N s j) (Q2 (.inl s))) (H2 : ∀ x j, cx_takeControl_18 x → PP bb w D pm_279 (ex_takeControl_18 c N x j) (Q2 (.inr x))) : PP bb w D pm_279 (89, [(0, .ref 189), (1, .int (i32 v1)), (2, .int (i32 (j 2))), (3, .int (i32 (j 3)))], [], (mhp m c, N), 0, 0) (QS Q2 (rfl_takeControl_89 v1 m)) := by
  unfold rfl_takeControl_89
  show PP bb w D pm_279 (89, [(0, .ref 189), (1, .int (i32 v1)), (2, .int (i32 (j 2))), (3, .int (i32 (j 3)))], [], (mhp (mO m [] []) c, N), 0, 0) _
  refine P_gf 93 (.int (i32 (m.1 8))) rfl rfl rfl rfl rfl rfl ?_
  refine P_sto 94 [(2, .int (i32 (m.1 8))), (0, .ref 189), (1, .int (i32 v1)), (3, .int (i32 (j 3)))] rfl (fun _ => rfl) ?_
  refine P_ld 95 (.ref 189) rfl (fun _ => rfl) ?_
  refine P_ld 97 (.int (i32 7)) rfl (fun _ => rfl) ?_
  refine P_ca1 100 236 [.ref 189, .int (i32 7)] [] rfl (fun _ => rfl) rfl (D_oldName w m c N D hm 7 (l32 7 rfl)) (fun y26 h27 n28 => ?_)
  refine P_lv (b := [(0, .ref 189), (1, .int (i32 v1)), (2, .int (i32 (m.1 8))), (3, .int (i32 (j 3)))]) rfl rfl ⟨rfl, rfl, rfl, rfl, trivial⟩ ?_
  exact dg_takeControl_100 w c N D bb v1 (m.1 8) y26.1 q1 (Cn_i hm 8 rfl) h27 y26.2 n28 (jk [(3, j 3)]) Q2 H1 H2
def rfl_takeControl_84 (u0 : Int) (m : mR) : Option (Sum (mR) (Sum (mR) (mR))) :=
  bnd (rf_next m) fun y29 =>
  rfl_takeControl_89 u0 y29.2
theorem dg_takeControl_84 (w : wX) (c : Nat → Option am_C) (N D : Nat) (bb : Nat) (u0 : Int) (r0 : R32 u0) (m : mR) (hm : Cn m) (j : Nat → Int) (Q2 : Sum (mR) (Sum (mR) (mR)) → ag_Re af_T → Prop) (H1 : ∀ s j, cs_takeControl_18 s → PP bb w D pm_279 (hd_takeControl_18 c N s j) (Q2 (.inl s))) (H2 : ∀ x j, cx_takeControl_18 x → PP bb w D pm_279 (ex_takeControl_18 c N x j) (Q2 (.inr x))) : PP bb w D pm_279 (84, [(0, .ref 189), (1, .int (i32 (j 1))), (2, .int (i32 (j 2))), (3, .int (i32 (j 3)))], [.int (i32 u0)], (mhp m c, N), 0, 0) (QS Q2 (rfl_takeControl_84 u0 m)) := by
  unfold rfl_takeControl_84
  show PP bb w D pm_279 (84, [(0, .ref 189), (1, .int (i32 (j 1))), (2, .int (i32 (j 2))), (3, .int (i32 (j 3)))], [.int (i32 u0)], (mhp (mO m [] []) c, N), 0, 0) _
  refine P_sto 85 [(1, .int (i32 u0)), (0, .ref 189), (2, .int (i32 (j 2))), (3, .int (i32 (j 3)))] rfl (fun _ => rfl) ?_
  refine P_ld 86 (.ref 189) rfl (fun _ => rfl) ?_
  refine P_ca0 89 212 [.ref 189] [] rfl (fun _ => rfl) rfl (D_next w m c N D hm) (fun y29 n31 => ?_)
  refine P_lv (b := [(0, .ref 189), (1, .int (i32 u0)), (2, .int (i32 (j 2))), (3, .int (i32 (j 3)))]) rfl rfl ⟨rfl, rfl, rfl, rfl, trivial⟩ ?_
  exact dg_takeControl_89 w c N D bb u0 r0 y29.2 n31 (jk [(2, j 2), (3, j 3)]) Q2 H1 H2
def rfl_takeControl_66 (m : mR) : Option (Sum (mR) (Sum (mR) (mR))) :=
  some (.inl m)
theorem dg_takeControl_66 (w : wX) (c : Nat → Option am_C) (N D : Nat) (bb : Nat) (m : mR) (hm : Cn m) (j : Nat → Int) (Q2 : Sum (mR) (Sum (mR) (mR)) → ag_Re af_T → Prop) (H1 : ∀ s j, cs_takeControl_18 s → PP bb w D pm_279 (hd_takeControl_18 c N s j) (Q2 (.inl s))) (H2 : ∀ x j, cx_takeControl_18 x → PP bb w D pm_279 (ex_takeControl_18 c N x j) (Q2 (.inr x))) : PP bb w D pm_279 (66, [(0, .ref 189), (1, .int (i32 (j 1))), (2, .int (i32 (j 2))), (3, .int (i32 (j 3)))], [], (mhp m c, N), 0, 0) (QS Q2 (rfl_takeControl_66 m)) := by
  unfold rfl_takeControl_66
  show PP bb w D pm_279 (66, [(0, .ref 189), (1, .int (i32 (j 1))), (2, .int (i32 (j 2))), (3, .int (i32 (j 3)))], [], (mhp (mO m [] []) c, N), 0, 0) _
  refine P_goto 18 rfl (fun _ => rfl) ?_
  refine P_some ?_
  exact H1 m (jk [(1, j 1), (2, j 2), (3, j 3)]) hm
def rfl_takeControl_44 (u0 : Int) (m : mR) : Option (Sum (mR) (Sum (mR) (mR))) :=
  if m.1 10 = 0 then
    bnd (rf_takeStatement (mO m [] [(120, upI (m.2 120) u0 (m.1 99))])) fun y33 =>
    rfl_takeControl_66 y33.2
  else
    rfl_takeControl_66 (mO m [] [(120, upI (m.2 120) u0 (m.1 99))])
theorem dg_takeControl_44 (w : wX) (c : Nat → Option am_C) (N D : Nat) (bb : Nat) (u0 : Int) (r0 : R32 u0) (m : mR) (hm : Cn m) (j : Nat → Int) (Q2 : Sum (mR) (Sum (mR) (mR)) → ag_Re af_T → Prop) (H1 : ∀ s j, cs_takeControl_18 s → PP bb w D pm_279 (hd_takeControl_18 c N s j) (Q2 (.inl s))) (H2 : ∀ x j, cx_takeControl_18 x → PP bb w D pm_279 (ex_takeControl_18 c N x j) (Q2 (.inr x))) : PP bb w D pm_279 (44, [(0, .ref 189), (1, .int (i32 (j 1))), (2, .int (i32 (j 2))), (3, .int (i32 (j 3)))], [.int (i32 u0)], (mhp m c, N), 0, 0) (QS Q2 (rfl_takeControl_44 u0 m)) := by
  unfold rfl_takeControl_44
  show PP bb w D pm_279 (44, [(0, .ref 189), (1, .int (i32 (j 1))), (2, .int (i32 (j 2))), (3, .int (i32 (j 3)))], [.int (i32 u0)], (mhp (mO m [] []) c, N), 0, 0) _
  refine P_sto 45 [(1, .int (i32 u0)), (0, .ref 189), (2, .int (i32 (j 2))), (3, .int (i32 (j 3)))] rfl (fun _ => rfl) ?_
  refine P_gf 49 (.ref 279) rfl rfl rfl rfl rfl rfl ?_
  refine P_ld 50 (.int (i32 u0)) rfl (fun _ => rfl) ?_
  refine P_gf 54 (.int (i32 (m.1 99))) rfl rfl rfl rfl rfl rfl ?_
  refine P_iast2 (a' := [(120, upI (m.2 120) u0 (m.1 99))]) 55 120 (m.2 120) rfl rfl rfl r0 rfl rfl ?_
  refine P_gf 59 (.int (i32 (m.1 10))) rfl rfl rfl rfl rfl rfl ?_
  refine P_ifE 66 62 rfl rfl rfl (Cn_i hm 10 rfl) rfl (fun h32 => ?_) (fun h32 => ?_)
  · skip
    refine P_ld 63 (.ref 189) rfl (fun _ => rfl) ?_
    refine P_ca0 66 270 [.ref 189] [] rfl (fun _ => rfl) rfl (D_takeStatement w (mO m [] [(120, upI (m.2 120) u0 (m.1 99))]) c N D (Cn_mO hm trivial ⟨(rE_ui (Cn_a hm 120) rfl (Cn_i hm 99 rfl)), trivial⟩)) (fun y33 n35 => ?_)
    refine P_lv (b := [(0, .ref 189), (1, .int (i32 u0)), (2, .int (i32 (j 2))), (3, .int (i32 (j 3)))]) rfl rfl ⟨rfl, rfl, rfl, rfl, trivial⟩ ?_
    exact dg_takeControl_66 w c N D bb y33.2 n35 (jk [(1, u0), (2, j 2), (3, j 3)]) Q2 H1 H2
  · skip
    refine P_lv (b := [(0, .ref 189), (1, .int (i32 u0)), (2, .int (i32 (j 2))), (3, .int (i32 (j 3)))]) rfl rfl ⟨rfl, rfl, rfl, rfl, trivial⟩ ?_
    exact dg_takeControl_66 w c N D bb (mO m [] [(120, upI (m.2 120) u0 (m.1 99))]) (Cn_mO hm trivial ⟨(rE_ui (Cn_a hm 120) rfl (Cn_i hm 99 rfl)), trivial⟩) (jk [(1, u0), (2, j 2), (3, j 3)]) Q2 H1 H2
def rfb_takeControl_18 (s : mR) : Option (Sum (mR) (Sum (mR) (mR))) :=
  if s.1 10 = 0 then
    if s.1 119 ≤ 0 then
      some (.inr (.inr s))
    else
      bnd (rf_isStatement s) fun y40 =>
      if y40 = 0 then
        if s.1 7 = 320 then
          bnd (rf_newStep 2 s) fun y51 =>
          rfl_takeControl_84 y51.1 y51.2
        else
          if s.1 7 = 321 then
            bnd (rf_newStep 1 s) fun y48 =>
            rfl_takeControl_170 y48.1 y48.2
          else
            bnd (rf_closeBlock s) fun y45 =>
            some (.inl y45.2)
      else
        bnd (rf_newStep 0 s) fun y54 =>
        rfl_takeControl_44 y54.1 y54.2
  else
    some (.inr (.inr s))
theorem dh_takeControl_18 (w : wX) (c : Nat → Option am_C) (N D : Nat) (bb : Nat) (Q2 : Sum (mR) (Sum (mR) (mR)) → ag_Re af_T → Prop) (H1 : ∀ s j, cs_takeControl_18 s → PP bb w D pm_279 (hd_takeControl_18 c N s j) (Q2 (.inl s))) (H2 : ∀ x j, cx_takeControl_18 x → PP bb w D pm_279 (ex_takeControl_18 c N x j) (Q2 (.inr x))) (s : mR) (j : Nat → Int) (hs : cs_takeControl_18 s) : PP (bb + 1) w D pm_279 (hd_takeControl_18 c N s j) (QS Q2 (rfb_takeControl_18 s)) := by
  have gm := hs
  unfold rfb_takeControl_18
  show PP (bb + 1) w D pm_279 (18, [(0, .ref 189), (1, .int (i32 (j 1))), (2, .int (i32 (j 2))), (3, .int (i32 (j 3)))], [], (mhp (mO s [] []) c, N), 0, 0) _
  refine P1_ld 19 (.ref 189) rfl (fun _ => rfl) ?_
  refine P_gf1 22 (.int (i32 (s.1 10))) rfl rfl rfl rfl ?_
  refine P_ifE 249 25 rfl rfl rfl (Cn_i gm 10 rfl) rfl (fun h38 => ?_) (fun h38 => ?_)
  · skip
    refine P_gf 29 (.int (i32 (s.1 119))) rfl rfl rfl rfl rfl rfl ?_
    refine P_ifF 249 32 rfl rfl rfl (Cn_i gm 119 rfl) rfl (fun h39 => ?_) (fun h39 => ?_)
    · skip
      refine P_some ?_
      exact H2 (.inr s) (jk [(1, j 1), (2, j 2), (3, j 3)]) gm
    · skip
      refine P_ld 33 (.ref 189) rfl (fun _ => rfl) ?_
      refine P_cp1 36 269 [.ref 189] [] rfl (fun _ => rfl) rfl (D_isStatement w s c N D gm) (fun y40 h41 => ?_)
      refine P_ifF 69 39 rfl rfl rfl h41 rfl (fun h42 => ?_) (fun h42 => ?_)
      · skip
        refine P_gf 73 (.int (i32 (s.1 7))) rfl rfl rfl rfl rfl rfl ?_
        refine P_ld 76 (.int (i32 320)) rfl (fun _ => rfl) ?_
        refine P_icE 155 79 rfl rfl rfl (Cn_i gm 7 rfl) (l32 320 rfl) rfl (fun h43 => ?_) (fun h43 => ?_)
        · skip
          refine P_ld 80 (.ref 189) rfl (fun _ => rfl) ?_
          refine P_ld 81 (.int (i32 2)) rfl (fun _ => rfl) ?_
          refine P_ca1 84 281 [.ref 189, .int (i32 2)] [] rfl (fun _ => rfl) rfl (D_newStep w s c N D gm 2 (l32 2 rfl)) (fun y51 h52 n53 => ?_)
          exact dg_takeControl_84 w c N D bb y51.1 h52 y51.2 n53 (jk [(1, j 1), (2, j 2), (3, j 3)]) Q2 H1 H2
        · skip
          refine P_gf 159 (.int (i32 (s.1 7))) rfl rfl rfl rfl rfl rfl ?_
          refine P_ld 162 (.int (i32 321)) rfl (fun _ => rfl) ?_
          refine P_icE 242 165 rfl rfl rfl (Cn_i gm 7 rfl) (l32 321 rfl) rfl (fun h44 => ?_) (fun h44 => ?_)
          · skip
            refine P_ld 166 (.ref 189) rfl (fun _ => rfl) ?_
            refine P_ld 167 (.int (i32 1)) rfl (fun _ => rfl) ?_
            refine P_ca1 170 281 [.ref 189, .int (i32 1)] [] rfl (fun _ => rfl) rfl (D_newStep w s c N D gm 1 (l32 1 rfl)) (fun y48 h49 n50 => ?_)
            exact dg_takeControl_170 w c N D bb y48.1 h49 y48.2 n50 (jk [(1, j 1), (2, j 2), (3, j 3)]) Q2 H1 H2
          · skip
            refine P_ld 243 (.ref 189) rfl (fun _ => rfl) ?_
            refine P_ca0 246 282 [.ref 189] [] rfl (fun _ => rfl) rfl (D_closeBlock w s c N D gm) (fun y45 n47 => ?_)
            refine P_goto 18 rfl (fun _ => rfl) ?_
            refine P_some ?_
            exact H1 y45.2 (jk [(1, j 1), (2, j 2), (3, j 3)]) n47
      · skip
        refine P_ld 40 (.ref 189) rfl (fun _ => rfl) ?_
        refine P_ld 41 (.int (i32 0)) rfl (fun _ => rfl) ?_
        refine P_ca1 44 281 [.ref 189, .int (i32 0)] [] rfl (fun _ => rfl) rfl (D_newStep w s c N D gm 0 (l32 0 rfl)) (fun y54 h55 n56 => ?_)
        exact dg_takeControl_44 w c N D bb y54.1 h55 y54.2 n56 (jk [(1, j 1), (2, j 2), (3, j 3)]) Q2 H1 H2
  · skip
    refine P_some ?_
    exact H2 (.inr s) (jk [(1, j 1), (2, j 2), (3, j 3)]) gm
def rfl_takeControl_7 (m : mR) : Option (Int × mR) :=
  bnd (rf_openBlock (-1) (-1) (mO m [(119, 0)] [])) fun y57 =>
  bnd (whl rfb_takeControl_18 y57.2) (sel
    (fun e60 : mR =>
      some (0, e60))
    (fun e63 : mR =>
      some (0, e63)))
theorem dg_takeControl_7 (w : wX) (c : Nat → Option am_C) (N D : Nat) (bb : Nat) (m : mR) (hm : Cn m) (j : Nat → Int) : PP bb w D pm_279 (7, [(0, .ref 189)], [], (mhp m c, N), 0, 0) (QS (FR0 c N) (rfl_takeControl_7 m)) := by
  unfold rfl_takeControl_7
  show PP bb w D pm_279 (7, [(0, .ref 189)], [], (mhp (mO m [] []) c, N), 0, 0) _
  refine P_ld 8 (.ref 189) rfl (fun _ => rfl) ?_
  refine P_ld 9 (.int (i32 0)) rfl (fun _ => rfl) ?_
  refine P_pf (l' := [(119, 0)]) 12 0 rfl rfl rfl rfl rfl rfl ?_
  refine P_ld 13 (.ref 189) rfl (fun _ => rfl) ?_
  refine P_ld 14 (.int (i32 (-1))) rfl (fun _ => rfl) ?_
  refine P_ld 15 (.int (i32 (-1))) rfl (fun _ => rfl) ?_
  refine P_ca0 18 280 [.ref 189, .int (i32 (-1)), .int (i32 (-1))] [] rfl (fun _ => rfl) rfl (D_openBlock w (mO m [(119, 0)] []) c N D (Cn_mO hm ⟨(rV_i rfl (l32 0 rfl)), trivial⟩ trivial) (-1) (-1) (l32 (-1) rfl) (l32 (-1) rfl)) (fun y57 n59 => ?_)
  refine P_lv (b := [(0, .ref 189), (1, .int (i32 0)), (2, .int (i32 0)), (3, .int (i32 0))]) rfl rfl ⟨rfl, trivial⟩ ?_
  refine P_bnd ?_
  refine P_whl (fun bb Q2 H1 H2 s9 j9 hs9 => dh_takeControl_18 w c N D bb Q2 H1 H2 s9 j9 hs9) bb (fun x0 j hx0 => ?_) y57.2 (jk []) n59
  cases x0 with
  | inl e60 =>
    have q61 := hx0
    have q62 := q61
    show PP bb w D pm_279 (137, [(0, .ref 189), (1, .int (i32 (j 1))), (2, .int (i32 (j 2))), (3, .int (i32 (j 3)))], [], (mhp (mO e60 [] []) c, N), 0, 0) (QS _ (some (0, e60)))
    exact P_re0 rfl rfl q62
  | inr e63 =>
    have q64 := hx0
    have q65 := q64
    show PP bb w D pm_279 (249, [(0, .ref 189), (1, .int (i32 (j 1))), (2, .int (i32 (j 2))), (3, .int (i32 (j 3)))], [], (mhp (mO e63 [] []) c, N), 0, 0) (QS _ (some (0, e63)))
    exact P_re0 rfl rfl q65
def rf_takeControl (m : mR) : Option (Int × mR) :=
  bnd (rf_need 319 m) fun y66 =>
  rfl_takeControl_7 y66.2
theorem D_takeControl (w : wX) (m : mR) (c : Nat → Option am_C) (N D : Nat) (hm : Cn m) : PC w D 279 [.ref 189] (mhp m c, N) (QS (FR0 c N) (rf_takeControl m)) := by
  refine Pc_of (fun D bb => ?_) D
  unfold rf_takeControl
  show PP bb w D pm_279 (0, [(0, .ref 189)], [], (mhp (mO m [] []) c, N), 0, 0) _
  refine P_ld 1 (.ref 189) rfl (fun _ => rfl) ?_
  refine P_ld 4 (.int (i32 319)) rfl (fun _ => rfl) ?_
  refine P_ca0 7 232 [.ref 189, .int (i32 319)] [] rfl (fun _ => rfl) rfl (D_need w m c N D hm 319 (l32 319 rfl)) (fun y66 n68 => ?_)
  exact dg_takeControl_7 w c N D bb y66.2 n68 (jk [])
def cs_takeEmit_9 (s : Int × mR) : Prop := R32 s.1 ∧ Cn s.2
def cx_takeEmit_9 : (mR) → Prop := (fun (e : mR) => Cn e)
def hd_takeEmit_9 (c : Nat → Option am_C) (N : Nat) (s : Int × mR) (j : Nat → Int) : ag_St af_T := (9, [(0, .ref 189), (1, .int (i32 s.1))], [], (mhp s.2 c, N), 0, 0)
def ex_takeEmit_9 (c : Nat → Option am_C) (N : Nat) : (mR) → (Nat → Int) → ag_St af_T := (fun (e : mR) (j : Nat → Int) => ((28, [(0, .ref 189), (1, .int (i32 (j 1)))], [], (mhp e c, N), 0, 0) : ag_St af_T))
def cs_takeEmit_35 (s : Int × mR) : Prop := R32 s.1 ∧ Cn s.2
def cx_takeEmit_35 : (Sum (mR) (mR)) → Prop := (sel (fun (e : mR) => Cn e) (fun (e : mR) => Cn e))
def hd_takeEmit_35 (c : Nat → Option am_C) (N : Nat) (s : Int × mR) (j : Nat → Int) : ag_St af_T := (35, [(0, .ref 189), (1, .int (i32 s.1)), (2, .int (i32 (j 2))), (3, .int (i32 (j 3)))], [], (mhp s.2 c, N), 0, 0)
def ex_takeEmit_35 (c : Nat → Option am_C) (N : Nat) : (Sum (mR) (mR)) → (Nat → Int) → ag_St af_T := (sel (fun (e : mR) (j : Nat → Int) => ((87, [(0, .ref 189), (1, .int (i32 (j 1))), (2, .int (i32 (j 2))), (3, .int (i32 (j 3)))], [], (mhp e c, N), 0, 0) : ag_St af_T)) (fun (e : mR) (j : Nat → Int) => ((148, [(0, .ref 189), (1, .int (i32 (j 1))), (2, .int (i32 (j 2))), (3, .int (i32 (j 3)))], [], (mhp e c, N), 0, 0) : ag_St af_T)))
def rfl_takeEmit_148 (m : mR) : Option (Int × mR) :=
  bnd (rf_need 59 m) fun y4 =>
  some (0, y4.2)
theorem dg_takeEmit_148 (w : wX) (c : Nat → Option am_C) (N D : Nat) (bb : Nat) (m : mR) (hm : Cn m) (j : Nat → Int) : PP bb w D pm_283 (148, [(0, .ref 189), (1, .int (i32 (j 1))), (2, .int (i32 (j 2))), (3, .int (i32 (j 3)))], [], (mhp m c, N), 0, 0) (QS (FR0 c N) (rfl_takeEmit_148 m)) := by
  unfold rfl_takeEmit_148
  show PP bb w D pm_283 (148, [(0, .ref 189), (1, .int (i32 (j 1))), (2, .int (i32 (j 2))), (3, .int (i32 (j 3)))], [], (mhp (mO m [] []) c, N), 0, 0) _
  refine P_ld 149 (.ref 189) rfl (fun _ => rfl) ?_
  refine P_ld 151 (.int (i32 59)) rfl (fun _ => rfl) ?_
  refine P_ca0 154 232 [.ref 189, .int (i32 59)] [] rfl (fun _ => rfl) rfl (D_need w m c N D hm 59 (l32 59 rfl)) (fun y4 n6 => ?_)
  exact P_re0 rfl rfl n6
def rfl_takeEmit_145 (v1 : Int) (m : mR) : Option (Sum (Int × mR) (Sum (mR) (mR))) :=
  some (.inl (v1, m))
theorem dg_takeEmit_145 (w : wX) (c : Nat → Option am_C) (N D : Nat) (bb : Nat) (v1 : Int) (q1 : R32 v1) (m : mR) (hm : Cn m) (j : Nat → Int) (Q2 : Sum (Int × mR) (Sum (mR) (mR)) → ag_Re af_T → Prop) (H1 : ∀ s j, cs_takeEmit_35 s → PP bb w D pm_283 (hd_takeEmit_35 c N s j) (Q2 (.inl s))) (H2 : ∀ x j, cx_takeEmit_35 x → PP bb w D pm_283 (ex_takeEmit_35 c N x j) (Q2 (.inr x))) : PP bb w D pm_283 (145, [(0, .ref 189), (1, .int (i32 v1)), (2, .int (i32 (j 2))), (3, .int (i32 (j 3)))], [], (mhp m c, N), 0, 0) (QS Q2 (rfl_takeEmit_145 v1 m)) := by
  unfold rfl_takeEmit_145
  show PP bb w D pm_283 (145, [(0, .ref 189), (1, .int (i32 v1)), (2, .int (i32 (j 2))), (3, .int (i32 (j 3)))], [], (mhp (mO m [] []) c, N), 0, 0) _
  refine P_goto 35 rfl (fun _ => rfl) ?_
  refine P_some ?_
  exact H1 (v1, m) (jk [(2, j 2), (3, j 3)]) ⟨q1, hm⟩
def rfl_takeEmit_136 (u0 : Int) (m : mR) : Option (Sum (Int × mR) (Sum (mR) (mR))) :=
  if u0 = 0 then
    rfl_takeEmit_145 u0 m
  else
    bnd (rf_next m) fun y8 =>
    rfl_takeEmit_145 u0 y8.2
theorem dg_takeEmit_136 (w : wX) (c : Nat → Option am_C) (N D : Nat) (bb : Nat) (u0 : Int) (r0 : R32 u0) (m : mR) (hm : Cn m) (j : Nat → Int) (Q2 : Sum (Int × mR) (Sum (mR) (mR)) → ag_Re af_T → Prop) (H1 : ∀ s j, cs_takeEmit_35 s → PP bb w D pm_283 (hd_takeEmit_35 c N s j) (Q2 (.inl s))) (H2 : ∀ x j, cx_takeEmit_35 x → PP bb w D pm_283 (ex_takeEmit_35 c N x j) (Q2 (.inr x))) : PP bb w D pm_283 (136, [(0, .ref 189), (1, .int (i32 (j 1))), (2, .int (i32 (j 2))), (3, .int (i32 (j 3)))], [.int (i32 u0)], (mhp m c, N), 0, 0) (QS Q2 (rfl_takeEmit_136 u0 m)) := by
  unfold rfl_takeEmit_136
  show PP bb w D pm_283 (136, [(0, .ref 189), (1, .int (i32 (j 1))), (2, .int (i32 (j 2))), (3, .int (i32 (j 3)))], [.int (i32 u0)], (mhp (mO m [] []) c, N), 0, 0) _
  refine P_sto 137 [(1, .int (i32 u0)), (0, .ref 189), (2, .int (i32 (j 2))), (3, .int (i32 (j 3)))] rfl (fun _ => rfl) ?_
  refine P_ld 138 (.int (i32 u0)) rfl (fun _ => rfl) ?_
  refine P_ifF 145 141 rfl rfl rfl r0 rfl (fun h7 => ?_) (fun h7 => ?_)
  · skip
    refine P_lv (b := [(0, .ref 189), (1, .int (i32 u0)), (2, .int (i32 (j 2))), (3, .int (i32 (j 3)))]) rfl rfl ⟨rfl, rfl, rfl, rfl, trivial⟩ ?_
    exact dg_takeEmit_145 w c N D bb u0 r0 m hm (jk [(2, j 2), (3, j 3)]) Q2 H1 H2
  · skip
    refine P_ld 142 (.ref 189) rfl (fun _ => rfl) ?_
    refine P_ca0 145 212 [.ref 189] [] rfl (fun _ => rfl) rfl (D_next w m c N D hm) (fun y8 n10 => ?_)
    refine P_lv (b := [(0, .ref 189), (1, .int (i32 u0)), (2, .int (i32 (j 2))), (3, .int (i32 (j 3)))]) rfl rfl ⟨rfl, rfl, rfl, rfl, trivial⟩ ?_
    exact dg_takeEmit_145 w c N D bb u0 r0 y8.2 n10 (jk [(2, j 2), (3, j 3)]) Q2 H1 H2
def rfl_takeEmit_135 (m : mR) : Option (Sum (Int × mR) (Sum (mR) (mR))) :=
  rfl_takeEmit_136 0 m
theorem dg_takeEmit_135 (w : wX) (c : Nat → Option am_C) (N D : Nat) (bb : Nat) (m : mR) (hm : Cn m) (j : Nat → Int) (Q2 : Sum (Int × mR) (Sum (mR) (mR)) → ag_Re af_T → Prop) (H1 : ∀ s j, cs_takeEmit_35 s → PP bb w D pm_283 (hd_takeEmit_35 c N s j) (Q2 (.inl s))) (H2 : ∀ x j, cx_takeEmit_35 x → PP bb w D pm_283 (ex_takeEmit_35 c N x j) (Q2 (.inr x))) : PP bb w D pm_283 (135, [(0, .ref 189), (1, .int (i32 (j 1))), (2, .int (i32 (j 2))), (3, .int (i32 (j 3)))], [], (mhp m c, N), 0, 0) (QS Q2 (rfl_takeEmit_135 m)) := by
  unfold rfl_takeEmit_135
  show PP bb w D pm_283 (135, [(0, .ref 189), (1, .int (i32 (j 1))), (2, .int (i32 (j 2))), (3, .int (i32 (j 3)))], [], (mhp (mO m [] []) c, N), 0, 0) _
  refine P_ld 136 (.int (i32 0)) rfl (fun _ => rfl) ?_
  exact dg_takeEmit_136 w c N D bb 0 (l32 0 rfl) m hm (jk [(1, j 1), (2, j 2), (3, j 3)]) Q2 H1 H2
def rfl_takeEmit_80 (v3 : Int) (m : mR) : Option (Sum (Int × mR) (Sum (mR) (mR))) :=
  if m.1 10 ≤ 0 then
    if m.1 10 = 0 then
      if m.1 7 = 44 then
        rfl_takeEmit_136 1 (mO m [(125, cut ((m.1 125) + 1))] [(123, upI (m.2 123) v3 (nar1 1)), (124, upI (m.2 124) (m.1 125) v3)])
      else
        rfl_takeEmit_135 (mO m [(125, cut ((m.1 125) + 1))] [(123, upI (m.2 123) v3 (nar1 1)), (124, upI (m.2 124) (m.1 125) v3)])
    else
      rfl_takeEmit_135 (mO m [(125, cut ((m.1 125) + 1))] [(123, upI (m.2 123) v3 (nar1 1)), (124, upI (m.2 124) (m.1 125) v3)])
  else
    some (.inr (.inl m))
theorem dg_takeEmit_80 (w : wX) (c : Nat → Option am_C) (N D : Nat) (bb : Nat) (v3 : Int) (q3 : R32 v3) (m : mR) (hm : Cn m) (j : Nat → Int) (Q2 : Sum (Int × mR) (Sum (mR) (mR)) → ag_Re af_T → Prop) (H1 : ∀ s j, cs_takeEmit_35 s → PP bb w D pm_283 (hd_takeEmit_35 c N s j) (Q2 (.inl s))) (H2 : ∀ x j, cx_takeEmit_35 x → PP bb w D pm_283 (ex_takeEmit_35 c N x j) (Q2 (.inr x))) : PP bb w D pm_283 (80, [(0, .ref 189), (1, .int (i32 (j 1))), (2, .int (i32 (j 2))), (3, .int (i32 v3))], [], (mhp m c, N), 0, 0) (QS Q2 (rfl_takeEmit_80 v3 m)) := by
  unfold rfl_takeEmit_80
  show PP bb w D pm_283 (80, [(0, .ref 189), (1, .int (i32 (j 1))), (2, .int (i32 (j 2))), (3, .int (i32 v3))], [], (mhp (mO m [] []) c, N), 0, 0) _
  refine P_gf 84 (.int (i32 (m.1 10))) rfl rfl rfl rfl rfl rfl ?_
  refine P_ifF 88 87 rfl rfl rfl (Cn_i hm 10 rfl) rfl (fun h11 => ?_) (fun h11 => ?_)
  · skip
    refine P_gf 92 (.ref 282) rfl rfl rfl rfl rfl rfl ?_
    refine P_ld 93 (.int (i32 v3)) rfl (fun _ => rfl) ?_
    refine P_ld 94 (.int (i32 1)) rfl (fun _ => rfl) ?_
    refine P_bast2 (a' := [(123, upI (m.2 123) v3 (nar1 1))]) 95 123 (m.2 123) rfl rfl rfl q3 rfl rfl ?_
    refine P_gf 99 (.ref 283) rfl rfl rfl rfl rfl rfl ?_
    refine P_gf 103 (.int (i32 (m.1 125))) rfl rfl rfl rfl rfl rfl ?_
    refine P_ld 104 (.int (i32 v3)) rfl (fun _ => rfl) ?_
    refine P_iast2 (a' := [(123, upI (m.2 123) v3 (nar1 1)), (124, upI (m.2 124) (m.1 125) v3)]) 105 124 (m.2 124) rfl rfl rfl (Cn_i hm 125 rfl) rfl rfl ?_
    refine P_ld 106 (.ref 189) rfl (fun _ => rfl) ?_
    refine P_ld 107 (.ref 189) rfl (fun _ => rfl) ?_
    refine P_gf1 110 (.int (i32 (m.1 125))) rfl rfl rfl rfl ?_
    refine P_ld 111 (.int (i32 1)) rfl (fun _ => rfl) ?_
    refine P_op 112 (cut ((m.1 125) + 1)) _ rfl (fun _ => rfl) o_add ?_
    refine P_pf (l' := [(125, cut ((m.1 125) + 1))]) 115 (cut ((m.1 125) + 1)) rfl rfl rfl rfl rfl rfl ?_
    refine P_gf 119 (.int (i32 (m.1 10))) rfl rfl rfl rfl rfl rfl ?_
    refine P_ifE 135 122 rfl rfl rfl (Cn_i hm 10 rfl) rfl (fun h12 => ?_) (fun h12 => ?_)
    · skip
      refine P_gf 126 (.int (i32 (m.1 7))) rfl rfl rfl rfl rfl rfl ?_
      refine P_ld 128 (.int (i32 44)) rfl (fun _ => rfl) ?_
      refine P_icE 135 131 rfl rfl rfl (Cn_i hm 7 rfl) (l32 44 rfl) rfl (fun h13 => ?_) (fun h13 => ?_)
      · skip
        refine P_ld 132 (.int (i32 1)) rfl (fun _ => rfl) ?_
        refine P_goto 136 rfl (fun _ => rfl) ?_
        exact dg_takeEmit_136 w c N D bb 1 (l32 1 rfl) (mO m [(125, cut ((m.1 125) + 1))] [(123, upI (m.2 123) v3 (nar1 1)), (124, upI (m.2 124) (m.1 125) v3)]) (Cn_mO hm ⟨(rV_i rfl cut_r), trivial⟩ ⟨(rE_ui (Cn_a hm 123) rfl t32_r), (rE_ui (Cn_a hm 124) rfl q3), trivial⟩) (jk [(1, j 1), (2, j 2), (3, v3)]) Q2 H1 H2
      · skip
        exact dg_takeEmit_135 w c N D bb (mO m [(125, cut ((m.1 125) + 1))] [(123, upI (m.2 123) v3 (nar1 1)), (124, upI (m.2 124) (m.1 125) v3)]) (Cn_mO hm ⟨(rV_i rfl cut_r), trivial⟩ ⟨(rE_ui (Cn_a hm 123) rfl t32_r), (rE_ui (Cn_a hm 124) rfl q3), trivial⟩) (jk [(1, j 1), (2, j 2), (3, v3)]) Q2 H1 H2
    · skip
      exact dg_takeEmit_135 w c N D bb (mO m [(125, cut ((m.1 125) + 1))] [(123, upI (m.2 123) v3 (nar1 1)), (124, upI (m.2 124) (m.1 125) v3)]) (Cn_mO hm ⟨(rV_i rfl cut_r), trivial⟩ ⟨(rE_ui (Cn_a hm 123) rfl t32_r), (rE_ui (Cn_a hm 124) rfl q3), trivial⟩) (jk [(1, j 1), (2, j 2), (3, v3)]) Q2 H1 H2
  · skip
    refine P_some ?_
    exact H2 (.inl m) (jk [(1, j 1), (2, j 2), (3, v3)]) hm
def rfl_takeEmit_56 (v2 : Int) (u0 : Int) (m : mR) : Option (Sum (Int × mR) (Sum (mR) (mR))) :=
  if m.1 10 = 0 then
    if (m.2 123) u0 = 0 then
      rfl_takeEmit_80 u0 m
    else
      bnd (rf_wrong 8 v2 m) fun y16 =>
      rfl_takeEmit_80 u0 y16.2
  else
    rfl_takeEmit_80 u0 m
theorem dg_takeEmit_56 (w : wX) (c : Nat → Option am_C) (N D : Nat) (bb : Nat) (v2 : Int) (u0 : Int) (q2 : R32 v2) (r0 : R32 u0) (m : mR) (hm : Cn m) (j : Nat → Int) (Q2 : Sum (Int × mR) (Sum (mR) (mR)) → ag_Re af_T → Prop) (H1 : ∀ s j, cs_takeEmit_35 s → PP bb w D pm_283 (hd_takeEmit_35 c N s j) (Q2 (.inl s))) (H2 : ∀ x j, cx_takeEmit_35 x → PP bb w D pm_283 (ex_takeEmit_35 c N x j) (Q2 (.inr x))) : PP bb w D pm_283 (56, [(0, .ref 189), (1, .int (i32 (j 1))), (2, .int (i32 v2)), (3, .int (i32 (j 3)))], [.int (i32 u0)], (mhp m c, N), 0, 0) (QS Q2 (rfl_takeEmit_56 v2 u0 m)) := by
  unfold rfl_takeEmit_56
  show PP bb w D pm_283 (56, [(0, .ref 189), (1, .int (i32 (j 1))), (2, .int (i32 v2)), (3, .int (i32 (j 3)))], [.int (i32 u0)], (mhp (mO m [] []) c, N), 0, 0) _
  refine P_sto 57 [(3, .int (i32 u0)), (0, .ref 189), (1, .int (i32 (j 1))), (2, .int (i32 v2))] rfl (fun _ => rfl) ?_
  refine P_gf 61 (.int (i32 (m.1 10))) rfl rfl rfl rfl rfl rfl ?_
  refine P_ifE 80 64 rfl rfl rfl (Cn_i hm 10 rfl) rfl (fun h14 => ?_) (fun h14 => ?_)
  · skip
    refine P_gf 68 (.ref 282) rfl rfl rfl rfl rfl rfl ?_
    refine P_ld 69 (.int (i32 u0)) rfl (fun _ => rfl) ?_
    refine P_bald2 70 123 (m.2 123) rfl rfl rfl r0 rfl ?_
    refine P_ifF 80 73 rfl rfl rfl (rE_i (Cn_a hm 123) rfl _) rfl (fun h15 => ?_) (fun h15 => ?_)
    · skip
      refine P_lv (b := [(0, .ref 189), (1, .int (i32 (j 1))), (2, .int (i32 v2)), (3, .int (i32 u0))]) rfl rfl ⟨rfl, rfl, rfl, rfl, trivial⟩ ?_
      exact dg_takeEmit_80 w c N D bb u0 r0 m hm (jk [(1, j 1), (2, v2)]) Q2 H1 H2
    · skip
      refine P_ld 74 (.ref 189) rfl (fun _ => rfl) ?_
      refine P_ld 76 (.int (i32 8)) rfl (fun _ => rfl) ?_
      refine P_ld 77 (.int (i32 v2)) rfl (fun _ => rfl) ?_
      refine P_ca0 80 222 [.ref 189, .int (i32 8), .int (i32 v2)] [] rfl (fun _ => rfl) rfl (D_wrong w m c N D hm 8 v2 (l32 8 rfl) q2) (fun y16 n18 => ?_)
      refine P_lv (b := [(0, .ref 189), (1, .int (i32 (j 1))), (2, .int (i32 v2)), (3, .int (i32 u0))]) rfl rfl ⟨rfl, rfl, rfl, rfl, trivial⟩ ?_
      exact dg_takeEmit_80 w c N D bb u0 r0 y16.2 n18 (jk [(1, j 1), (2, v2)]) Q2 H1 H2
  · skip
    refine P_lv (b := [(0, .ref 189), (1, .int (i32 (j 1))), (2, .int (i32 v2)), (3, .int (i32 u0))]) rfl rfl ⟨rfl, rfl, rfl, rfl, trivial⟩ ?_
    exact dg_takeEmit_80 w c N D bb u0 r0 m hm (jk [(1, j 1), (2, v2)]) Q2 H1 H2
def rfb_takeEmit_35 (s : Int × mR) : Option (Sum (Int × mR) (Sum (mR) (mR))) :=
  if s.1 = 0 then
    some (.inr (.inr s.2))
  else
    if s.2.1 10 = 0 then
      bnd (rf_oldName 2 s.2) fun y23 =>
      rfl_takeEmit_56 (s.2.1 8) y23.1 y23.2
    else
      some (.inr (.inr s.2))
theorem dh_takeEmit_35 (w : wX) (c : Nat → Option am_C) (N D : Nat) (bb : Nat) (Q2 : Sum (Int × mR) (Sum (mR) (mR)) → ag_Re af_T → Prop) (H1 : ∀ s j, cs_takeEmit_35 s → PP bb w D pm_283 (hd_takeEmit_35 c N s j) (Q2 (.inl s))) (H2 : ∀ x j, cx_takeEmit_35 x → PP bb w D pm_283 (ex_takeEmit_35 c N x j) (Q2 (.inr x))) (s : Int × mR) (j : Nat → Int) (hs : cs_takeEmit_35 s) : PP (bb + 1) w D pm_283 (hd_takeEmit_35 c N s j) (QS Q2 (rfb_takeEmit_35 s)) := by
  obtain ⟨g1, gm⟩ := hs
  unfold rfb_takeEmit_35
  show PP (bb + 1) w D pm_283 (35, [(0, .ref 189), (1, .int (i32 s.1)), (2, .int (i32 (j 2))), (3, .int (i32 (j 3)))], [], (mhp (mO s.2 [] []) c, N), 0, 0) _
  refine P1_ld 36 (.int (i32 s.1)) rfl (fun _ => rfl) ?_
  refine P_ifF 148 39 rfl rfl rfl g1 rfl (fun h21 => ?_) (fun h21 => ?_)
  · skip
    refine P_some ?_
    exact H2 (.inr s.2) (jk [(1, s.1), (2, j 2), (3, j 3)]) gm
  · skip
    refine P_gf 43 (.int (i32 (s.2.1 10))) rfl rfl rfl rfl rfl rfl ?_
    refine P_ifE 148 46 rfl rfl rfl (Cn_i gm 10 rfl) rfl (fun h22 => ?_) (fun h22 => ?_)
    · skip
      refine P_gf 50 (.int (i32 (s.2.1 8))) rfl rfl rfl rfl rfl rfl ?_
      refine P_sto 51 [(2, .int (i32 (s.2.1 8))), (0, .ref 189), (1, .int (i32 s.1)), (3, .int (i32 (j 3)))] rfl (fun _ => rfl) ?_
      refine P_ld 52 (.ref 189) rfl (fun _ => rfl) ?_
      refine P_ld 53 (.int (i32 2)) rfl (fun _ => rfl) ?_
      refine P_ca1 56 236 [.ref 189, .int (i32 2)] [] rfl (fun _ => rfl) rfl (D_oldName w s.2 c N D gm 2 (l32 2 rfl)) (fun y23 h24 n25 => ?_)
      refine P_lv (b := [(0, .ref 189), (1, .int (i32 s.1)), (2, .int (i32 (s.2.1 8))), (3, .int (i32 (j 3)))]) rfl rfl ⟨rfl, rfl, rfl, rfl, trivial⟩ ?_
      exact dg_takeEmit_56 w c N D bb (s.2.1 8) y23.1 (Cn_i gm 8 rfl) h24 y23.2 n25 (jk [(1, s.1), (3, j 3)]) Q2 H1 H2
    · skip
      refine P_some ?_
      exact H2 (.inr s.2) (jk [(1, s.1), (2, j 2), (3, j 3)]) gm
def rfl_takeEmit_28 (m : mR) : Option (Int × mR) :=
  bnd (whl rfb_takeEmit_35 (1, (mO m [(125, 0)] []))) (sel
    (fun e26 : mR =>
      some (0, e26))
    (fun e29 : mR =>
      rfl_takeEmit_148 e29))
theorem dg_takeEmit_28 (w : wX) (c : Nat → Option am_C) (N D : Nat) (bb : Nat) (m : mR) (hm : Cn m) (j : Nat → Int) : PP bb w D pm_283 (28, [(0, .ref 189), (1, .int (i32 (j 1)))], [], (mhp m c, N), 0, 0) (QS (FR0 c N) (rfl_takeEmit_28 m)) := by
  unfold rfl_takeEmit_28
  show PP bb w D pm_283 (28, [(0, .ref 189), (1, .int (i32 (j 1)))], [], (mhp (mO m [] []) c, N), 0, 0) _
  refine P_ld 29 (.ref 189) rfl (fun _ => rfl) ?_
  refine P_ld 30 (.int (i32 0)) rfl (fun _ => rfl) ?_
  refine P_pf (l' := [(125, 0)]) 33 0 rfl rfl rfl rfl rfl rfl ?_
  refine P_ld 34 (.int (i32 1)) rfl (fun _ => rfl) ?_
  refine P_sto 35 [(1, .int (i32 1)), (0, .ref 189)] rfl (fun _ => rfl) ?_
  refine P_lv (b := [(0, .ref 189), (1, .int (i32 1)), (2, .int (i32 0)), (3, .int (i32 0))]) rfl rfl ⟨rfl, rfl, trivial⟩ ?_
  refine P_bnd ?_
  refine P_whl (fun bb Q2 H1 H2 s9 j9 hs9 => dh_takeEmit_35 w c N D bb Q2 H1 H2 s9 j9 hs9) bb (fun x0 j hx0 => ?_) (1, (mO m [(125, 0)] [])) (jk []) ⟨(l32 1 rfl), (Cn_mO hm ⟨(rV_i rfl (l32 0 rfl)), trivial⟩ trivial)⟩
  cases x0 with
  | inl e26 =>
    have q27 := hx0
    have q28 := q27
    show PP bb w D pm_283 (87, [(0, .ref 189), (1, .int (i32 (j 1))), (2, .int (i32 (j 2))), (3, .int (i32 (j 3)))], [], (mhp (mO e26 [] []) c, N), 0, 0) (QS _ (some (0, e26)))
    exact P_re0 rfl rfl q28
  | inr e29 =>
    have q30 := hx0
    have q31 := q30
    show PP bb w D pm_283 (148, [(0, .ref 189), (1, .int (i32 (j 1))), (2, .int (i32 (j 2))), (3, .int (i32 (j 3)))], [], (mhp (mO e29 [] []) c, N), 0, 0) (QS _ (rfl_takeEmit_148 e29))
    exact dg_takeEmit_148 w c N D bb e29 q31 (jk [(1, j 1), (2, j 2), (3, j 3)])
def rfb_takeEmit_9 (s : Int × mR) : Option (Sum (Int × mR) (mR)) :=
  if (12 : Int) ≤ s.1 then
    some (.inr s.2)
  else
    some (.inl (cut (s.1 + 1), (mO s.2 [] [(123, upI (s.2.2 123) s.1 (nar1 0))])))
theorem dh_takeEmit_9 (w : wX) (c : Nat → Option am_C) (N D : Nat) (bb : Nat) (Q2 : Sum (Int × mR) (mR) → ag_Re af_T → Prop) (H1 : ∀ s j, cs_takeEmit_9 s → PP bb w D pm_283 (hd_takeEmit_9 c N s j) (Q2 (.inl s))) (H2 : ∀ x j, cx_takeEmit_9 x → PP bb w D pm_283 (ex_takeEmit_9 c N x j) (Q2 (.inr x))) (s : Int × mR) (j : Nat → Int) (hs : cs_takeEmit_9 s) : PP (bb + 1) w D pm_283 (hd_takeEmit_9 c N s j) (QS Q2 (rfb_takeEmit_9 s)) := by
  obtain ⟨g1, gm⟩ := hs
  unfold rfb_takeEmit_9
  show PP (bb + 1) w D pm_283 (9, [(0, .ref 189), (1, .int (i32 s.1))], [], (mhp (mO s.2 [] []) c, N), 0, 0) _
  refine P1_ld 10 (.int (i32 s.1)) rfl (fun _ => rfl) ?_
  refine P_ld 12 (.int (i32 12)) rfl (fun _ => rfl) ?_
  refine P_icF 28 15 rfl rfl rfl g1 (l32 12 rfl) rfl (fun h33 => ?_) (fun h33 => ?_)
  · skip
    refine P_some ?_
    exact H2 s.2 (jk [(1, s.1)]) gm
  · skip
    refine P_gf 19 (.ref 282) rfl rfl rfl rfl rfl rfl ?_
    refine P_ld 20 (.int (i32 s.1)) rfl (fun _ => rfl) ?_
    refine P_ld 21 (.int (i32 0)) rfl (fun _ => rfl) ?_
    refine P_bast2 (a' := [(123, upI (s.2.2 123) s.1 (nar1 0))]) 22 123 (s.2.2 123) rfl rfl rfl g1 rfl rfl ?_
    refine P_inc 25 [(1, .int (i32 (cut (s.1 + 1)))), (0, .ref 189)] rfl rfl (by decide) rfl rfl ?_
    refine P_goto 9 rfl (fun _ => rfl) ?_
    refine P_some ?_
    refine P_lv (b := [(0, .ref 189), (1, .int (i32 (cut (s.1 + 1))))]) rfl rfl ⟨rfl, rfl, trivial⟩ ?_
    exact H1 (cut (s.1 + 1), (mO s.2 [] [(123, upI (s.2.2 123) s.1 (nar1 0))])) (jk []) ⟨cut_r, (Cn_mO gm trivial ⟨(rE_ui (Cn_a gm 123) rfl t32_r), trivial⟩)⟩
def rfl_takeEmit_7 (m : mR) : Option (Int × mR) :=
  bnd (whl rfb_takeEmit_9 (0, m)) (fun e34 : mR =>
    rfl_takeEmit_28 e34)
theorem dg_takeEmit_7 (w : wX) (c : Nat → Option am_C) (N D : Nat) (bb : Nat) (m : mR) (hm : Cn m) (j : Nat → Int) : PP bb w D pm_283 (7, [(0, .ref 189)], [], (mhp m c, N), 0, 0) (QS (FR0 c N) (rfl_takeEmit_7 m)) := by
  unfold rfl_takeEmit_7
  show PP bb w D pm_283 (7, [(0, .ref 189)], [], (mhp (mO m [] []) c, N), 0, 0) _
  refine P_ld 8 (.int (i32 0)) rfl (fun _ => rfl) ?_
  refine P_sto 9 [(1, .int (i32 0)), (0, .ref 189)] rfl (fun _ => rfl) ?_
  refine P_lv (b := [(0, .ref 189), (1, .int (i32 0))]) rfl rfl ⟨rfl, rfl, trivial⟩ ?_
  refine P_bnd ?_
  refine P_whl (fun bb Q2 H1 H2 s9 j9 hs9 => dh_takeEmit_9 w c N D bb Q2 H1 H2 s9 j9 hs9) bb (fun e34 j q35 => ?_) (0, m) (jk []) ⟨(l32 0 rfl), hm⟩
  have q36 := q35
  show PP bb w D pm_283 (28, [(0, .ref 189), (1, .int (i32 (j 1)))], [], (mhp (mO e34 [] []) c, N), 0, 0) (QS _ (rfl_takeEmit_28 e34))
  exact dg_takeEmit_28 w c N D bb e34 q36 (jk [(1, j 1)])
def rf_takeEmit (m : mR) : Option (Int × mR) :=
  bnd (rf_need 323 m) fun y37 =>
  rfl_takeEmit_7 y37.2
theorem D_takeEmit (w : wX) (m : mR) (c : Nat → Option am_C) (N D : Nat) (hm : Cn m) : PC w D 283 [.ref 189] (mhp m c, N) (QS (FR0 c N) (rf_takeEmit m)) := by
  refine Pc_of (fun D bb => ?_) D
  unfold rf_takeEmit
  show PP bb w D pm_283 (0, [(0, .ref 189)], [], (mhp (mO m [] []) c, N), 0, 0) _
  refine P_ld 1 (.ref 189) rfl (fun _ => rfl) ?_
  refine P_ld 4 (.int (i32 323)) rfl (fun _ => rfl) ?_
  refine P_ca0 7 232 [.ref 189, .int (i32 323)] [] rfl (fun _ => rfl) rfl (D_need w m c N D hm 323 (l32 323 rfl)) (fun y37 n39 => ?_)
  exact dg_takeEmit_7 w c N D bb y37.2 n39 (jk [])
end X26L
