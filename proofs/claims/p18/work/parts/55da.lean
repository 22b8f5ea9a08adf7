noncomputable section X55DA
def kfl_pi_goneOut_47 (u0 : Int) (m : mR) : Option Int :=
  some u0
theorem dg_pi_goneOut_47 (B : oB) (w : wX) (c : Nat → Option am_C) (N D : Nat) (bb : Nat) (u0 : Int) (r0 : Rno B u0) (m : mR) (hm : KCo B m) (j : Nat → Int) : PP bb w D pm_35 (47, [(0, .ref 185), (1, .int (i32 (j 1))), (2, .int (i32 (j 2)))], [obv B u0], (khp m c, N), 0, 0) (QS (FPn B (khp m c, N)) (kfl_pi_goneOut_47 u0 m)) := by
  unfold kfl_pi_goneOut_47
  show PP bb w D pm_35 (47, [(0, .ref 185), (1, .int (i32 (j 1))), (2, .int (i32 (j 2)))], [obv B u0], (khp (mO m [] []) c, N), 0, 0) _
  exact P_rpn rfl rfl r0
def kfl_pi_goneOut_28 (v1 : Int) (u0 : Int) (m : mR) : Option Int :=
  if u0 = 0 then
    kfl_pi_goneOut_47 (-1) m
  else
    kfl_pi_goneOut_47 (kopn (m.2 107) (v1.tmod 128)) m
theorem dg_pi_goneOut_28 (B : oB) (w : wX) (c : Nat → Option am_C) (N D : Nat) (bb : Nat) (v1 : Int) (u0 : Int) (q1 : R32 v1) (r0 : R32 u0) (m : mR) (hm : KCo B m) (j : Nat → Int) : PP bb w D pm_35 (28, [(0, .ref 185), (1, .int (i32 v1))], [.int (i32 u0)], (khp m c, N), 0, 0) (QS (FPn B (khp m c, N)) (kfl_pi_goneOut_28 v1 u0 m)) := by
  unfold kfl_pi_goneOut_28
  show PP bb w D pm_35 (28, [(0, .ref 185), (1, .int (i32 v1))], [.int (i32 u0)], (khp (mO m [] []) c, N), 0, 0) _
  refine P_sto 29 [(2, .int (i32 u0)), (0, .ref 185), (1, .int (i32 v1))] rfl (fun _ => rfl) ?_
  refine P_ld 30 (.int (i32 u0)) rfl (fun _ => rfl) ?_
  refine P_ifF 46 33 rfl rfl rfl r0 rfl (fun h1 => ?_) (fun h1 => ?_)
  · skip
    refine P_ld 47 .null rfl (fun _ => rfl) ?_
    refine P_lv (b := [(0, .ref 185), (1, .int (i32 v1)), (2, .int (i32 u0))]) rfl rfl ⟨rfl, rfl, rfl, trivial⟩ ?_
    exact dg_pi_goneOut_47 B w c N D bb (-1) rno_1 m hm (jk [(1, v1), (2, u0)])
  · skip
    refine P_ld 34 (.ref 185) rfl (fun _ => rfl) ?_
    refine PK_gf 37 (.ref 186) rfl rfl kd_185 rfl rfl rfl ?_
    refine P_ld 38 (.int (i32 v1)) rfl (fun _ => rfl) ?_
    refine P_ld 41 (.int (i32 128)) rfl (fun _ => rfl) ?_
    refine P_rem 42 rfl rfl q1 (by decide) (by decide) ?_
    refine PK_aaop2 43 .null rfl hm rfl (tmod_r q1 (by decide) (by decide)) rfl (fun t2 => ?_)
    refine P_goto 47 rfl (fun _ => rfl) ?_
    refine P_lv (b := [(0, .ref 185), (1, .int (i32 v1)), (2, .int (i32 u0))]) rfl rfl ⟨rfl, rfl, rfl, trivial⟩ ?_
    exact dg_pi_goneOut_47 B w c N D bb (kopn (m.2 107) (v1.tmod 128)) t2 m hm (jk [(1, v1), (2, u0)])
def kfl_pi_goneOut_27 (v1 : Int) (m : mR) : Option Int :=
  kfl_pi_goneOut_28 v1 0 m
theorem dg_pi_goneOut_27 (B : oB) (w : wX) (c : Nat → Option am_C) (N D : Nat) (bb : Nat) (v1 : Int) (q1 : R32 v1) (m : mR) (hm : KCo B m) (j : Nat → Int) : PP bb w D pm_35 (27, [(0, .ref 185), (1, .int (i32 v1))], [], (khp m c, N), 0, 0) (QS (FPn B (khp m c, N)) (kfl_pi_goneOut_27 v1 m)) := by
  unfold kfl_pi_goneOut_27
  show PP bb w D pm_35 (27, [(0, .ref 185), (1, .int (i32 v1))], [], (khp (mO m [] []) c, N), 0, 0) _
  refine P_ld 28 (.int (i32 0)) rfl (fun _ => rfl) ?_
  exact dg_pi_goneOut_28 B w c N D bb v1 0 q1 (l32 0 rfl) m hm (jk [])
def kf_pi_goneOut (v1 : Int) (m : mR) : Option Int :=
  if v1 < 0 then
    kfl_pi_goneOut_27 v1 m
  else
    if m.1 234 ≤ v1 then
      kfl_pi_goneOut_27 v1 m
    else
      if v1 < cut ((m.1 234) - 64) then
        kfl_pi_goneOut_27 v1 m
      else
        kfl_pi_goneOut_28 v1 1 m
theorem D_pi_goneOut (B : oB) (w : wX) (m : mR) (c : Nat → Option am_C) (N D : Nat) (hm : KCo B m) (v1 : Int) (q1 : R32 v1) : PC w D 35 [.ref 185, .int (i32 v1)] (khp m c, N) (QS (FPn B (khp m c, N)) (kf_pi_goneOut v1 m)) := by
  refine Pc_of (fun D bb => ?_) D
  unfold kf_pi_goneOut
  show PP bb w D pm_35 (0, [(0, .ref 185), (1, .int (i32 v1))], [], (khp (mO m [] []) c, N), 0, 0) _
  refine P_ld 1 (.int (i32 v1)) rfl (fun _ => rfl) ?_
  refine P_ifF 27 4 rfl rfl rfl q1 rfl (fun h3 => ?_) (fun h3 => ?_)
  · skip
    exact dg_pi_goneOut_27 B w c N D bb v1 q1 m hm (jk [])
  · skip
    refine P_ld 5 (.int (i32 v1)) rfl (fun _ => rfl) ?_
    refine P_ld 6 (.ref 185) rfl (fun _ => rfl) ?_
    refine PK_gf 9 (.int (i32 (m.1 234))) rfl rfl kd_185 rfl rfl rfl ?_
    refine P_icF 27 12 rfl rfl rfl q1 (KCn_i hm.1 234 rfl) rfl (fun h4 => ?_) (fun h4 => ?_)
    · skip
      exact dg_pi_goneOut_27 B w c N D bb v1 q1 m hm (jk [])
    · skip
      refine P_ld 13 (.int (i32 v1)) rfl (fun _ => rfl) ?_
      refine P_ld 14 (.ref 185) rfl (fun _ => rfl) ?_
      refine PK_gf 17 (.int (i32 (m.1 234))) rfl rfl kd_185 rfl rfl rfl ?_
      refine P_ld 19 (.int (i32 64)) rfl (fun _ => rfl) ?_
      refine P_op 20 (cut ((m.1 234) - 64)) _ rfl (fun _ => rfl) o_sub ?_
      refine P_icF 27 23 rfl rfl rfl q1 cut_r rfl (fun h5 => ?_) (fun h5 => ?_)
      · skip
        exact dg_pi_goneOut_27 B w c N D bb v1 q1 m hm (jk [])
      · skip
        refine P_ld 24 (.int (i32 1)) rfl (fun _ => rfl) ?_
        refine P_goto 28 rfl (fun _ => rfl) ?_
        exact dg_pi_goneOut_28 B w c N D bb v1 1 q1 (l32 1 rfl) m hm (jk [])
def kfl_op_isSent_19 (u0 : Int) (m : mR) : Option Int :=
  some u0
theorem dg_op_isSent_19 (B : oB) (w : wX) (c : Nat → Option am_C) (N D : Nat) (bb : Nat) (u0 : Int) (r0 : R32 u0) (m : mR) (hm : KCo B m) (j : Nat → Int) : PP bb w D pm_36 (19, [(0, .ref (obo B (j 0)))], [.int (i32 u0)], (khp m c, N), 0, 0) (QS (FP1 (khp m c, N)) (kfl_op_isSent_19 u0 m)) := by
  unfold kfl_op_isSent_19
  show PP bb w D pm_36 (19, [(0, .ref (obo B (j 0)))], [.int (i32 u0)], (khp (mO m [] []) c, N), 0, 0) _
  exact P_rp1 rfl r0
def kf_op_isSent (v0 : Int) (m : mR) : Option Int :=
  if (m.2 91) v0 = 0 then
    if (m.2 98) v0 = 0 then
      kfl_op_isSent_19 1 m
    else
      kfl_op_isSent_19 0 m
  else
    kfl_op_isSent_19 0 m
theorem D_op_isSent (B : oB) (w : wX) (m : mR) (c : Nat → Option am_C) (N D : Nat) (hm : KCo B m) (v0 : Int) (q0 : OKo B v0) : PC w D 36 [.ref (obo B v0)] (khp m c, N) (QS (FP1 (khp m c, N)) (kf_op_isSent v0 m)) := by
  refine Pc_of (fun D bb => ?_) D
  unfold kf_op_isSent
  show PP bb w D pm_36 (0, [(0, .ref (obo B v0))], [], (khp (mO m [] []) c, N), 0, 0) _
  refine P_ld 1 (.ref (obo B v0)) rfl (fun _ => rfl) ?_
  refine PK_goi 4 91 (m.2 91) rfl rfl (OKr_o hm rfl rfl q0) (obr_o hm rfl) rfl rfl ?_
  refine P_ifE 18 7 rfl rfl rfl (kE_i (KCn_a hm.1 91) rfl _) rfl (fun h1 => ?_) (fun h1 => ?_)
  · skip
    refine P_ld 8 (.ref (obo B v0)) rfl (fun _ => rfl) ?_
    refine PK_goi 11 98 (m.2 98) rfl rfl (OKr_o hm rfl rfl q0) (obr_o hm rfl) rfl rfl ?_
    refine P_ifE 18 14 rfl rfl rfl (kE_i (KCn_a hm.1 98) rfl _) rfl (fun h2 => ?_) (fun h2 => ?_)
    · skip
      refine P_ld 15 (.int (i32 1)) rfl (fun _ => rfl) ?_
      refine P_goto 19 rfl (fun _ => rfl) ?_
      exact dg_op_isSent_19 B w c N D bb 1 (l32 1 rfl) m hm (jk [(0, v0)])
    · skip
      refine P_ld 19 (.int (i32 0)) rfl (fun _ => rfl) ?_
      exact dg_op_isSent_19 B w c N D bb 0 (l32 0 rfl) m hm (jk [(0, v0)])
  · skip
    refine P_ld 19 (.int (i32 0)) rfl (fun _ => rfl) ?_
    exact dg_op_isSent_19 B w c N D bb 0 (l32 0 rfl) m hm (jk [(0, v0)])
def kfl_pw_out_98 (u0 : Int) (m : mR) : Option Int :=
  some u0
theorem dg_pw_out_98 (B : oB) (w : wX) (c : Nat → Option am_C) (N D : Nat) (bb : Nat) (u0 : Int) (r0 : R32 u0) (m : mR) (hm : KCo B m) (j : Nat → Int) : PP bb w D pm_34 (98, [(0, .ref 0), (1, .int (i32 (j 1))), (2, .int (i32 (j 2))), (3, obv B (j 3)), (4, .int (i32 (j 4)))], [.int (i32 u0)], (khp m c, N), 0, 0) (QS (FP1 (khp m c, N)) (kfl_pw_out_98 u0 m)) := by
  unfold kfl_pw_out_98
  show PP bb w D pm_34 (98, [(0, .ref 0), (1, .int (i32 (j 1))), (2, .int (i32 (j 2))), (3, obv B (j 3)), (4, .int (i32 (j 4)))], [.int (i32 u0)], (khp (mO m [] []) c, N), 0, 0) _
  exact P_rp1 rfl r0
def kfl_pw_out_84 (u0 : Int) (m : mR) : Option Int :=
  some u0
theorem dg_pw_out_84 (B : oB) (w : wX) (c : Nat → Option am_C) (N D : Nat) (bb : Nat) (u0 : Int) (r0 : R32 u0) (m : mR) (hm : KCo B m) (j : Nat → Int) : PP bb w D pm_34 (84, [(0, .ref 0), (1, .int (i32 (j 1))), (2, .int (i32 (j 2))), (3, obv B (j 3)), (4, .int (i32 (j 4)))], [.int (i32 u0)], (khp m c, N), 0, 0) (QS (FP1 (khp m c, N)) (kfl_pw_out_84 u0 m)) := by
  unfold kfl_pw_out_84
  show PP bb w D pm_34 (84, [(0, .ref 0), (1, .int (i32 (j 1))), (2, .int (i32 (j 2))), (3, obv B (j 3)), (4, .int (i32 (j 4)))], [.int (i32 u0)], (khp (mO m [] []) c, N), 0, 0) _
  exact P_rp1 rfl r0
def kf_pw_out (v1 : Int) (v2 : Int) (m : mR) : Option Int :=
  bnd (kf_pi_goneOut v1 m) fun y1 =>
  if y1 < 0 then
    some (-1)
  else
    bnd (kf_op_isSent y1 m) fun y5 =>
    if v2 = 0 then
      some ((m.2 91) y1)
    else
      if v2 = 1 then
        some ((m.2 98) y1)
      else
        if v2 = 2 then
          if y5 = 0 then
            kfl_pw_out_84 (-1) m
          else
            kfl_pw_out_84 (cut ((m.2 101) (65536 * y1 + 206))) m
        else
          if v2 = 3 then
            if y5 = 0 then
              kfl_pw_out_98 (-1) m
            else
              kfl_pw_out_98 ((m.2 92) y1) m
          else
            if v2 = 4 then
              some ((m.2 99) y1)
            else
              some (-1)
theorem D_pw_out (B : oB) (w : wX) (m : mR) (c : Nat → Option am_C) (N D : Nat) (hm : KCo B m) (v1 : Int) (v2 : Int) (q1 : R32 v1) (q2 : R32 v2) : PC w D 34 [.ref 0, .int (i32 v1), .int (i32 v2)] (khp m c, N) (QS (FP1 (khp m c, N)) (kf_pw_out v1 v2 m)) := by
  refine Pc_of (fun D bb => ?_) D
  unfold kf_pw_out
  show PP bb w D pm_34 (0, [(0, .ref 0), (1, .int (i32 v1)), (2, .int (i32 v2))], [], (khp (mO m [] []) c, N), 0, 0) _
  refine P_ld 1 (.ref 0) rfl (fun _ => rfl) ?_
  refine PK_gf 4 (.ref 185) rfl rfl kd_0 rfl rfl rfl ?_
  refine P_ld 5 (.int (i32 v1)) rfl (fun _ => rfl) ?_
  refine P_cpn 8 35 [.ref 185, .int (i32 v1)] [] rfl (fun _ => rfl) rfl (D_pi_goneOut B w m c N D hm v1 q1) (fun y1 h2 => ?_)
  refine P_sto 9 [(3, obv B y1), (0, .ref 0), (1, .int (i32 v1)), (2, .int (i32 v2))] rfl (fun _ => by first | rfl | (unfold obv; (repeat' split) <;> rfl)) ?_
  refine P_ld 10 (obv B y1) rfl (fun _ => by first | rfl | (unfold obv; (repeat' split) <;> rfl)) ?_
  refine P_cs (fun h4 => ?_) (fun h4 => ?_)
  · skip
    rw [obv_n h4]
    refine P_pop 13 rfl (fun _ => rfl) ?_
    refine P_ld 14 (.int (i32 (-1))) rfl (fun _ => rfl) ?_
    exact P_rp1 rfl (l32 (-1) rfl)
  · skip
    rw [obv_t (Rno_n h2 h4)]
    refine P_pop 15 rfl (fun _ => rfl) ?_
    refine P_ld 16 (.ref (obo B y1)) rfl (fun _ => rfl) ?_
    refine P_cp1 19 36 [.ref (obo B y1)] [] rfl (inv_vt (args := []) (khp_oo hm rfl rfl (Rno_n h2 h4)) rfl rfl rfl) rfl (D_op_isSent B w m c N D hm y1 (Rno_n h2 h4)) (fun y5 h6 => ?_)
    refine P_sto 21 [(4, .int (i32 y5)), (3, .ref (obo B y1)), (0, .ref 0), (1, .int (i32 v1)), (2, .int (i32 v2))] rfl (fun _ => rfl) ?_
    refine P_ld 22 (.int (i32 v2)) rfl (fun _ => rfl) ?_
    refine P_cs (fun h8 => ?_) (fun h8 => ?_)
    · skip
      refine P_cast 0 h8 ?_
      refine P_pop 56 rfl (fun _ => rfl) ?_
      refine P_ld 57 (.ref (obo B y1)) rfl (fun _ => rfl) ?_
      refine PK_goi 60 91 (m.2 91) rfl rfl (OKr_o hm rfl rfl (Rno_n h2 h4)) (obr_o hm rfl) rfl rfl ?_
      exact P_rp1 rfl (kE_i (KCn_a hm.1 91) rfl _)
    · skip
      refine P_cs (fun h9 => ?_) (fun h9 => ?_)
      · skip
        refine P_cast 1 h9 ?_
        refine P_pop 61 rfl (fun _ => rfl) ?_
        refine P_ld 62 (.ref (obo B y1)) rfl (fun _ => rfl) ?_
        refine PK_goi 65 98 (m.2 98) rfl rfl (OKr_o hm rfl rfl (Rno_n h2 h4)) (obr_o hm rfl) rfl rfl ?_
        exact P_rp1 rfl (kE_i (KCn_a hm.1 98) rfl _)
      · skip
        refine P_cs (fun h10 => ?_) (fun h10 => ?_)
        · skip
          refine P_cast 2 h10 ?_
          refine P_pop 66 rfl (fun _ => rfl) ?_
          refine P_ld 68 (.int (i32 y5)) rfl (fun _ => rfl) ?_
          refine P_ifF 83 71 rfl rfl rfl h6 rfl (fun h11 => ?_) (fun h11 => ?_)
          · skip
            refine P_ld 84 (.int (i32 (-1))) rfl (fun _ => rfl) ?_
            refine P_lv (b := [(0, .ref 0), (1, .int (i32 v1)), (2, .int (i32 v2)), (3, obv B y1), (4, .int (i32 y5))]) rfl rfl ⟨rfl, (congrArg some (obv_t (Rno_n h2 h4))), rfl, rfl, rfl, trivial⟩ ?_
            exact dg_pw_out_84 B w c N D bb (-1) (l32 (-1) rfl) m hm (jk [(1, v1), (2, v2), (3, y1), (4, y5)])
          · skip
            refine P_ld 72 (.ref (obo B y1)) rfl (fun _ => rfl) ?_
            refine PK_gor 75 rfl rfl (OKr_o hm rfl rfl (Rno_n h2 h4)) (obr_o hm rfl) rfl ?_
            refine P_ld 78 (.int (i32 206)) rfl (fun _ => rfl) ?_
            refine PK_lalo2 79 1 (m.2 101) rfl rfl rfl hm rfl rfl (Rno_n h2 h4) (l32 206 rfl) rfl ?_
            refine P_op 80 (cut ((m.2 101) (65536 * y1 + 206))) _ rfl (fun _ => rfl) o_l2i ?_
            refine P_goto 84 rfl (fun _ => rfl) ?_
            refine P_lv (b := [(0, .ref 0), (1, .int (i32 v1)), (2, .int (i32 v2)), (3, obv B y1), (4, .int (i32 y5))]) rfl rfl ⟨rfl, (congrArg some (obv_t (Rno_n h2 h4))), rfl, rfl, rfl, trivial⟩ ?_
            exact dg_pw_out_84 B w c N D bb (cut ((m.2 101) (65536 * y1 + 206))) cut_r m hm (jk [(1, v1), (2, v2), (3, y1), (4, y5)])
        · skip
          refine P_cs (fun h12 => ?_) (fun h12 => ?_)
          · skip
            refine P_cast 3 h12 ?_
            refine P_pop 85 rfl (fun _ => rfl) ?_
            refine P_ld 87 (.int (i32 y5)) rfl (fun _ => rfl) ?_
            refine P_ifF 97 90 rfl rfl rfl h6 rfl (fun h13 => ?_) (fun h13 => ?_)
            · skip
              refine P_ld 98 (.int (i32 (-1))) rfl (fun _ => rfl) ?_
              refine P_lv (b := [(0, .ref 0), (1, .int (i32 v1)), (2, .int (i32 v2)), (3, obv B y1), (4, .int (i32 y5))]) rfl rfl ⟨rfl, (congrArg some (obv_t (Rno_n h2 h4))), rfl, rfl, rfl, trivial⟩ ?_
              exact dg_pw_out_98 B w c N D bb (-1) (l32 (-1) rfl) m hm (jk [(1, v1), (2, v2), (3, y1), (4, y5)])
            · skip
              refine P_ld 91 (.ref (obo B y1)) rfl (fun _ => rfl) ?_
              refine PK_goi 94 92 (m.2 92) rfl rfl (OKr_o hm rfl rfl (Rno_n h2 h4)) (obr_o hm rfl) rfl rfl ?_
              refine P_goto 98 rfl (fun _ => rfl) ?_
              refine P_lv (b := [(0, .ref 0), (1, .int (i32 v1)), (2, .int (i32 v2)), (3, obv B y1), (4, .int (i32 y5))]) rfl rfl ⟨rfl, (congrArg some (obv_t (Rno_n h2 h4))), rfl, rfl, rfl, trivial⟩ ?_
              exact dg_pw_out_98 B w c N D bb ((m.2 92) y1) (kE_i (KCn_a hm.1 92) rfl _) m hm (jk [(1, v1), (2, v2), (3, y1), (4, y5)])
          · skip
            refine P_cs (fun h14 => ?_) (fun h14 => ?_)
            · skip
              refine P_cast 4 h14 ?_
              refine P_pop 99 rfl (fun _ => rfl) ?_
              refine P_ld 100 (.ref (obo B y1)) rfl (fun _ => rfl) ?_
              refine PK_goi 103 99 (m.2 99) rfl rfl (OKr_o hm rfl rfl (Rno_n h2 h4)) (obr_o hm rfl) rfl rfl ?_
              exact P_rp1 rfl (kE_i (KCn_a hm.1 99) rfl _)
            · skip
              refine P_tsd 104 rfl rfl q2 (by omega) ?_
              refine P_ld 105 (.int (i32 (-1))) rfl (fun _ => rfl) ?_
              exact P_rp1 rfl (l32 (-1) rfl)
def kf_pw_byteAt (v1 : Int) (v2 : Int) (m : mR) : Option Int :=
  bnd (kf_pi_goneOut v1 m) fun y1 =>
  if y1 < 0 then
    some (-1)
  else
    bnd (kf_op_isSent y1 m) fun y5 =>
    if y5 = 0 then
      some (-1)
    else
      if v2 < 0 then
        some (-1)
      else
        if v2 < (m.2 92) y1 then
          some (and32 ((m.2 100) (65536 * y1 + v2)) 255)
        else
          some (-1)
theorem D_pw_byteAt (B : oB) (w : wX) (m : mR) (c : Nat → Option am_C) (N D : Nat) (hm : KCo B m) (v1 : Int) (v2 : Int) (q1 : R32 v1) (q2 : R32 v2) : PC w D 37 [.ref 0, .int (i32 v1), .int (i32 v2)] (khp m c, N) (QS (FP1 (khp m c, N)) (kf_pw_byteAt v1 v2 m)) := by
  refine Pc_of (fun D bb => ?_) D
  unfold kf_pw_byteAt
  show PP bb w D pm_37 (0, [(0, .ref 0), (1, .int (i32 v1)), (2, .int (i32 v2))], [], (khp (mO m [] []) c, N), 0, 0) _
  refine P_ld 1 (.ref 0) rfl (fun _ => rfl) ?_
  refine PK_gf 4 (.ref 185) rfl rfl kd_0 rfl rfl rfl ?_
  refine P_ld 5 (.int (i32 v1)) rfl (fun _ => rfl) ?_
  refine P_cpn 8 35 [.ref 185, .int (i32 v1)] [] rfl (fun _ => rfl) rfl (D_pi_goneOut B w m c N D hm v1 q1) (fun y1 h2 => ?_)
  refine P_sto 9 [(3, obv B y1), (0, .ref 0), (1, .int (i32 v1)), (2, .int (i32 v2))] rfl (fun _ => by first | rfl | (unfold obv; (repeat' split) <;> rfl)) ?_
  refine P_ld 10 (obv B y1) rfl (fun _ => by first | rfl | (unfold obv; (repeat' split) <;> rfl)) ?_
  refine P_cs (fun h4 => ?_) (fun h4 => ?_)
  · skip
    rw [obv_n h4]
    refine P_pop 32 rfl (fun _ => rfl) ?_
    refine P_ld 33 (.int (i32 (-1))) rfl (fun _ => rfl) ?_
    exact P_rp1 rfl (l32 (-1) rfl)
  · skip
    rw [obv_t (Rno_n h2 h4)]
    refine P_pop 13 rfl (fun _ => rfl) ?_
    refine P_ld 14 (.ref (obo B y1)) rfl (fun _ => rfl) ?_
    refine P_cp1 17 36 [.ref (obo B y1)] [] rfl (inv_vt (args := []) (khp_oo hm rfl rfl (Rno_n h2 h4)) rfl rfl rfl) rfl (D_op_isSent B w m c N D hm y1 (Rno_n h2 h4)) (fun y5 h6 => ?_)
    refine P_ifF 32 20 rfl rfl rfl h6 rfl (fun h8 => ?_) (fun h8 => ?_)
    · skip
      refine P_ld 33 (.int (i32 (-1))) rfl (fun _ => rfl) ?_
      exact P_rp1 rfl (l32 (-1) rfl)
    · skip
      refine P_ld 21 (.int (i32 v2)) rfl (fun _ => rfl) ?_
      refine P_ifF 32 24 rfl rfl rfl q2 rfl (fun h9 => ?_) (fun h9 => ?_)
      · skip
        refine P_ld 33 (.int (i32 (-1))) rfl (fun _ => rfl) ?_
        exact P_rp1 rfl (l32 (-1) rfl)
      · skip
        refine P_ld 25 (.int (i32 v2)) rfl (fun _ => rfl) ?_
        refine P_ld 26 (.ref (obo B y1)) rfl (fun _ => rfl) ?_
        refine PK_goi 29 92 (m.2 92) rfl rfl (OKr_o hm rfl rfl (Rno_n h2 h4)) (obr_o hm rfl) rfl rfl ?_
        refine P_icF 34 32 rfl rfl rfl q2 (kE_i (KCn_a hm.1 92) rfl _) rfl (fun h10 => ?_) (fun h10 => ?_)
        · skip
          refine P_ld 35 (.ref (obo B y1)) rfl (fun _ => rfl) ?_
          refine PK_gor 38 rfl rfl (OKr_o hm rfl rfl (Rno_n h2 h4)) (obr_o hm rfl) rfl ?_
          refine P_ld 39 (.int (i32 v2)) rfl (fun _ => rfl) ?_
          refine PK_balo2 40 0 (m.2 100) rfl rfl rfl hm rfl rfl (Rno_n h2 h4) q2 rfl ?_
          refine P_ld 43 (.int (i32 255)) rfl (fun _ => rfl) ?_
          refine P_op 44 (and32 ((m.2 100) (65536 * y1 + v2)) 255) _ rfl (fun _ => rfl) (i32_of _).symm ?_
          exact P_rp1 rfl t32_r
        · skip
          refine P_ld 33 (.int (i32 (-1))) rfl (fun _ => rfl) ?_
          exact P_rp1 rfl (l32 (-1) rfl)
def kf_pw_did (v1 : Int) (v2 : Int) (m : mR) : Option Int :=
  bnd (kf_pi_goneOut v1 m) fun y1 =>
  if y1 < 0 then
    some (-1)
  else
    if (m.2 91) y1 = 0 then
      if v2 < 0 then
        some (-1)
      else
        if v2 < m.1 225 then
          some ((m.2 102) (65536 * y1 + v2))
        else
          some (-1)
    else
      some (-1)
theorem D_pw_did (B : oB) (w : wX) (m : mR) (c : Nat → Option am_C) (N D : Nat) (hm : KCo B m) (v1 : Int) (v2 : Int) (q1 : R32 v1) (q2 : R32 v2) : PC w D 38 [.ref 0, .int (i32 v1), .int (i32 v2)] (khp m c, N) (QS (FP1 (khp m c, N)) (kf_pw_did v1 v2 m)) := by
  refine Pc_of (fun D bb => ?_) D
  unfold kf_pw_did
  show PP bb w D pm_38 (0, [(0, .ref 0), (1, .int (i32 v1)), (2, .int (i32 v2))], [], (khp (mO m [] []) c, N), 0, 0) _
  refine P_ld 1 (.ref 0) rfl (fun _ => rfl) ?_
  refine PK_gf 4 (.ref 185) rfl rfl kd_0 rfl rfl rfl ?_
  refine P_ld 5 (.int (i32 v1)) rfl (fun _ => rfl) ?_
  refine P_cpn 8 35 [.ref 185, .int (i32 v1)] [] rfl (fun _ => rfl) rfl (D_pi_goneOut B w m c N D hm v1 q1) (fun y1 h2 => ?_)
  refine P_sto 9 [(3, obv B y1), (0, .ref 0), (1, .int (i32 v1)), (2, .int (i32 v2))] rfl (fun _ => by first | rfl | (unfold obv; (repeat' split) <;> rfl)) ?_
  refine P_ld 10 (obv B y1) rfl (fun _ => by first | rfl | (unfold obv; (repeat' split) <;> rfl)) ?_
  refine P_cs (fun h4 => ?_) (fun h4 => ?_)
  · skip
    rw [obv_n h4]
    refine P_pop 38 rfl (fun _ => rfl) ?_
    refine P_ld 39 (.int (i32 (-1))) rfl (fun _ => rfl) ?_
    exact P_rp1 rfl (l32 (-1) rfl)
  · skip
    rw [obv_t (Rno_n h2 h4)]
    refine P_pop 13 rfl (fun _ => rfl) ?_
    refine P_ld 14 (.ref (obo B y1)) rfl (fun _ => rfl) ?_
    refine PK_goi 17 91 (m.2 91) rfl rfl (OKr_o hm rfl rfl (Rno_n h2 h4)) (obr_o hm rfl) rfl rfl ?_
    refine P_ifE 38 20 rfl rfl rfl (kE_i (KCn_a hm.1 91) rfl _) rfl (fun h5 => ?_) (fun h5 => ?_)
    · skip
      refine P_ld 21 (.int (i32 v2)) rfl (fun _ => rfl) ?_
      refine P_ifF 38 24 rfl rfl rfl q2 rfl (fun h6 => ?_) (fun h6 => ?_)
      · skip
        refine P_ld 39 (.int (i32 (-1))) rfl (fun _ => rfl) ?_
        exact P_rp1 rfl (l32 (-1) rfl)
      · skip
        refine P_ld 25 (.int (i32 v2)) rfl (fun _ => rfl) ?_
        refine P_ld 26 (.ref 0) rfl (fun _ => rfl) ?_
        refine PK_gf 29 (.ref 12) rfl rfl kd_0 rfl rfl rfl ?_
        refine PK_gf 32 (.ref 59) rfl rfl kd_12 rfl rfl rfl ?_
        refine PK_gf 35 (.int (i32 (m.1 225))) rfl rfl kd_59 rfl rfl rfl ?_
        refine P_icF 40 38 rfl rfl rfl q2 (KCn_i hm.1 225 rfl) rfl (fun h7 => ?_) (fun h7 => ?_)
        · skip
          refine P_ld 41 (.ref (obo B y1)) rfl (fun _ => rfl) ?_
          refine PK_gor 44 rfl rfl (OKr_o hm rfl rfl (Rno_n h2 h4)) (obr_o hm rfl) rfl ?_
          refine P_ld 45 (.int (i32 v2)) rfl (fun _ => rfl) ?_
          refine PK_ialo2 46 2 (m.2 102) rfl rfl rfl hm rfl rfl (Rno_n h2 h4) q2 rfl ?_
          exact P_rp1 rfl (kE_i (KCn_a hm.1 102) rfl _)
        · skip
          refine P_ld 39 (.int (i32 (-1))) rfl (fun _ => rfl) ?_
          exact P_rp1 rfl (l32 (-1) rfl)
    · skip
      refine P_ld 39 (.int (i32 (-1))) rfl (fun _ => rfl) ?_
      exact P_rp1 rfl (l32 (-1) rfl)
def kfl_op_put_23 (v0 : Int) (v1 : Int) (v2 : Int) (m : mR) : Option (Int × mR) :=
  some (0, (mO m [] [(101, upI (m.2 101) (65536 * v0 + v1) v2)]))
theorem dg_op_put_23 (B : oB) (w : wX) (c : Nat → Option am_C) (N D : Nat) (bb : Nat) (v0 : Int) (v1 : Int) (v2 : Int) (q0 : OKo B v0) (q1 : R32 v1) (q2 : R64 v2) (m : mR) (hm : KCo B m) (j : Nat → Int) : PP bb w D pm_200 (23, [(0, .ref (obo B v0)), (1, .int (i32 v1)), (2, .long (i64 v2))], [], (khp m c, N), 0, 0) (QS (FO0 B c N) (kfl_op_put_23 v0 v1 v2 m)) := by
  unfold kfl_op_put_23
  show PP bb w D pm_200 (23, [(0, .ref (obo B v0)), (1, .int (i32 v1)), (2, .long (i64 v2))], [], (khp (mO m [] []) c, N), 0, 0) _
  refine P_ld 24 (.ref (obo B v0)) rfl (fun _ => rfl) ?_
  refine PK_gor 27 rfl rfl (OKr_o hm rfl rfl q0) (obr_o hm rfl) rfl ?_
  refine P_ld 28 (.int (i32 v1)) rfl (fun _ => rfl) ?_
  refine P_ld 29 (.long (i64 v2)) rfl (fun _ => rfl) ?_
  refine PK_lasto2 (a' := [(101, upI (m.2 101) (65536 * v0 + v1) v2)]) 30 1 (m.2 101) rfl rfl rfl hm rfl rfl q0 q1 rfl rfl ?_
  exact P_ro0 rfl rfl (KCo_mO hm rfl rfl (KC6 hm rfl) trivial ⟨(kE_ul (KCn_a hm.1 101) rfl q2), trivial⟩)
def kf_op_put (v0 : Int) (v1 : Int) (v2 : Int) (m : mR) : Option (Int × mR) :=
  if (204 : Int) ≤ v1 then
    kfl_op_put_23 v0 v1 v2 m
  else
    if cmp64 ((m.2 101) (65536 * v0 + (cut (v1 - (v1.tmod 17))))) 0 = 0 then
      some (0, m)
    else
      kfl_op_put_23 v0 v1 v2 m
theorem D_op_put (B : oB) (w : wX) (m : mR) (c : Nat → Option am_C) (N D : Nat) (hm : KCo B m) (v0 : Int) (v1 : Int) (v2 : Int) (q0 : OKo B v0) (q1 : R32 v1) (q2 : R64 v2) : PC w D 200 [.ref (obo B v0), .int (i32 v1), .long (i64 v2)] (khp m c, N) (QS (FO0 B c N) (kf_op_put v0 v1 v2 m)) := by
  refine Pc_of (fun D bb => ?_) D
  unfold kf_op_put
  show PP bb w D pm_200 (0, [(0, .ref (obo B v0)), (1, .int (i32 v1)), (2, .long (i64 v2))], [], (khp (mO m [] []) c, N), 0, 0) _
  refine P_ld 1 (.int (i32 v1)) rfl (fun _ => rfl) ?_
  refine P_ld 4 (.int (i32 204)) rfl (fun _ => rfl) ?_
  refine P_icF 23 7 rfl rfl rfl q1 (l32 204 rfl) rfl (fun h1 => ?_) (fun h1 => ?_)
  · skip
    exact dg_op_put_23 B w c N D bb v0 v1 v2 q0 q1 q2 m hm (jk [])
  · skip
    refine P_ld 8 (.ref (obo B v0)) rfl (fun _ => rfl) ?_
    refine PK_gor 11 rfl rfl (OKr_o hm rfl rfl q0) (obr_o hm rfl) rfl ?_
    refine P_ld 12 (.int (i32 v1)) rfl (fun _ => rfl) ?_
    refine P_ld 13 (.int (i32 v1)) rfl (fun _ => rfl) ?_
    refine P_ld 15 (.int (i32 17)) rfl (fun _ => rfl) ?_
    refine P_rem 16 rfl rfl q1 (by decide) (by decide) ?_
    refine P_op 17 (cut (v1 - (v1.tmod 17))) _ rfl (fun _ => rfl) o_sub ?_
    refine PK_lalo2 18 1 (m.2 101) rfl rfl rfl hm rfl rfl q0 cut_r rfl ?_
    refine P_ld 19 (.long (i64 0)) rfl (fun _ => rfl) ?_
    refine P_op 20 (cmp64 ((m.2 101) (65536 * v0 + (cut (v1 - (v1.tmod 17))))) 0) _ rfl (fun _ => rfl) (o_cmp (kE_l (KCn_a hm.1 101) rfl _) (l64 0 rfl)) ?_
    refine P_ifF 30 23 rfl rfl rfl cmp64_r rfl (fun h2 => ?_) (fun h2 => ?_)
    · skip
      exact P_ro0 rfl rfl hm
    · skip
      exact dg_op_put_23 B w c N D bb v0 v1 v2 q0 q1 q2 m hm (jk [])
def cs_op_takeAway_2 (B : oB) (s : Int × mR) : Prop := R32 s.1 ∧ KCo B s.2
def cx_op_takeAway_2 (B : oB) : (mR) → Prop := (fun (e : mR) => KCo B e)
def hd_op_takeAway_2 (B : oB) (c : Nat → Option am_C) (N : Nat) (v0 : Int) (v1 : Int) (s : Int × mR) (j : Nat → Int) : ag_St af_T := (2, [(0, .ref (obo B v0)), (1, .int (i32 v1)), (2, .int (i32 s.1))], [], (khp s.2 c, N), 0, 0)
def ex_op_takeAway_2 (B : oB) (c : Nat → Option am_C) (N : Nat) (v0 : Int) (v1 : Int) : (mR) → (Nat → Int) → ag_St af_T := (fun (e : mR) (j : Nat → Int) => ((23, [(0, .ref (obo B (j 0))), (1, .int (i32 (j 1))), (2, .int (i32 (j 2)))], [], (khp e c, N), 0, 0) : ag_St af_T))
def kfb_op_takeAway_2 (v0 : Int) (v1 : Int) (s : Int × mR) : Option (Sum (Int × mR) (mR)) :=
  if (17 : Int) ≤ s.1 then
    some (.inr s.2)
  else
    some (.inl (cut (s.1 + 1), (mO s.2 [] [(101, upI (s.2.2 101) (65536 * v0 + (cut (v1 + s.1))) 0)])))
theorem dh_op_takeAway_2 (B : oB) (w : wX) (c : Nat → Option am_C) (N D : Nat) (v0 : Int) (v1 : Int) (q0 : OKo B v0) (q1 : R32 v1) (bb : Nat) (Q2 : Sum (Int × mR) (mR) → ag_Re af_T → Prop) (H1 : ∀ s j, cs_op_takeAway_2 B s → PP bb w D pm_201 (hd_op_takeAway_2 B c N v0 v1 s j) (Q2 (.inl s))) (H2 : ∀ x j, cx_op_takeAway_2 B x → PP bb w D pm_201 (ex_op_takeAway_2 B c N v0 v1 x j) (Q2 (.inr x))) (s : Int × mR) (j : Nat → Int) (hs : cs_op_takeAway_2 B s) : PP (bb + 1) w D pm_201 (hd_op_takeAway_2 B c N v0 v1 s j) (QS Q2 (kfb_op_takeAway_2 v0 v1 s)) := by
  obtain ⟨g2, gm⟩ := hs
  unfold kfb_op_takeAway_2
  show PP (bb + 1) w D pm_201 (2, [(0, .ref (obo B v0)), (1, .int (i32 v1)), (2, .int (i32 s.1))], [], (khp (mO s.2 [] []) c, N), 0, 0) _
  refine P1_ld 3 (.int (i32 s.1)) rfl (fun _ => rfl) ?_
  refine P_ld 5 (.int (i32 17)) rfl (fun _ => rfl) ?_
  refine P_icF 23 8 rfl rfl rfl g2 (l32 17 rfl) rfl (fun h3 => ?_) (fun h3 => ?_)
  · skip
    refine P_some ?_
    exact H2 s.2 (jk [(0, v0), (1, v1), (2, s.1)]) gm
  · skip
    refine P_ld 9 (.ref (obo B v0)) rfl (fun _ => rfl) ?_
    refine PK_gor 12 rfl rfl (OKr_o gm rfl rfl q0) (obr_o gm rfl) rfl ?_
    refine P_ld 13 (.int (i32 v1)) rfl (fun _ => rfl) ?_
    refine P_ld 14 (.int (i32 s.1)) rfl (fun _ => rfl) ?_
    refine P_op 15 (cut (v1 + s.1)) _ rfl (fun _ => rfl) o_add ?_
    refine P_ld 16 (.long (i64 0)) rfl (fun _ => rfl) ?_
    refine PK_lasto2 (a' := [(101, upI (s.2.2 101) (65536 * v0 + (cut (v1 + s.1))) 0)]) 17 1 (s.2.2 101) rfl rfl rfl gm rfl rfl q0 cut_r rfl rfl ?_
    refine P_inc 20 [(2, .int (i32 (cut (s.1 + 1)))), (0, .ref (obo B v0)), (1, .int (i32 v1))] rfl rfl (by decide) rfl rfl ?_
    refine P_goto 2 rfl (fun _ => rfl) ?_
    refine P_some ?_
    refine P_lv (b := [(0, .ref (obo B v0)), (1, .int (i32 v1)), (2, .int (i32 (cut (s.1 + 1))))]) rfl rfl ⟨rfl, rfl, rfl, trivial⟩ ?_
    exact H1 (cut (s.1 + 1), (mO s.2 [] [(101, upI (s.2.2 101) (65536 * v0 + (cut (v1 + s.1))) 0)])) (jk []) ⟨cut_r, (KCo_mO gm rfl rfl (KC6 gm rfl) trivial ⟨(kE_ul (KCn_a gm.1 101) rfl (l64 0 rfl)), trivial⟩)⟩
def kf_op_takeAway (v0 : Int) (v1 : Int) (m : mR) : Option (Int × mR) :=
  bnd (whl (kfb_op_takeAway_2 v0 v1) (0, m)) (fun e4 : mR =>
    some (0, e4))
theorem D_op_takeAway (B : oB) (w : wX) (m : mR) (c : Nat → Option am_C) (N D : Nat) (hm : KCo B m) (v0 : Int) (v1 : Int) (q0 : OKo B v0) (q1 : R32 v1) : PC w D 201 [.ref (obo B v0), .int (i32 v1)] (khp m c, N) (QS (FO0 B c N) (kf_op_takeAway v0 v1 m)) := by
  refine Pc_of (fun D bb => ?_) D
  unfold kf_op_takeAway
  show PP bb w D pm_201 (0, [(0, .ref (obo B v0)), (1, .int (i32 v1))], [], (khp (mO m [] []) c, N), 0, 0) _
  refine P_ld 1 (.int (i32 0)) rfl (fun _ => rfl) ?_
  refine P_sto 2 [(2, .int (i32 0)), (0, .ref (obo B v0)), (1, .int (i32 v1))] rfl (fun _ => rfl) ?_
  refine P_lv (b := [(0, .ref (obo B v0)), (1, .int (i32 v1)), (2, .int (i32 0))]) rfl rfl ⟨rfl, rfl, rfl, trivial⟩ ?_
  refine P_bnd ?_
  refine P_whl (fun bb Q2 H1 H2 s9 j9 hs9 => dh_op_takeAway_2 B w c N D v0 v1 q0 q1 bb Q2 H1 H2 s9 j9 hs9) bb (fun e4 j q5 => ?_) (0, m) (jk []) ⟨(l32 0 rfl), hm⟩
  have q6 := q5
  show PP bb w D pm_201 (23, [(0, .ref (obo B (j 0))), (1, .int (i32 (j 1))), (2, .int (i32 (j 2)))], [], (khp (mO e4 [] []) c, N), 0, 0) (QS _ (some (0, e4)))
  exact P_ro0 rfl rfl q6
def kfl_nd_reckon_367 (u0 : Int) (m : mR) : Option Int :=
  some u0
theorem dg_nd_reckon_367 (B : oB) (w : wX) (c : Nat → Option am_C) (N D : Nat) (bb : Nat) (u0 : Int) (r0 : R64 u0) (m : mR) (hm : KCo B m) (j : Nat → Int) : PP bb w D pm_184 (367, [(0, .ref 22), (1, .int (i32 (j 1))), (2, .long (i64 (j 2))), (4, .long (i64 (j 4))), (6, .int (i32 (j 6))), (7, .int (i32 (j 7)))], [.long (i64 u0)], (khp m c, N), 0, 0) (QS (FP2 (khp m c, N)) (kfl_nd_reckon_367 u0 m)) := by
  unfold kfl_nd_reckon_367
  show PP bb w D pm_184 (367, [(0, .ref 22), (1, .int (i32 (j 1))), (2, .long (i64 (j 2))), (4, .long (i64 (j 4))), (6, .int (i32 (j 6))), (7, .int (i32 (j 7)))], [.long (i64 u0)], (khp (mO m [] []) c, N), 0, 0) _
  exact P_rp2 rfl rfl r0
def kfl_nd_reckon_346 (u0 : Int) (m : mR) : Option Int :=
  some u0
theorem dg_nd_reckon_346 (B : oB) (w : wX) (c : Nat → Option am_C) (N D : Nat) (bb : Nat) (u0 : Int) (r0 : R64 u0) (m : mR) (hm : KCo B m) (j : Nat → Int) : PP bb w D pm_184 (346, [(0, .ref 22), (1, .int (i32 (j 1))), (2, .long (i64 (j 2))), (4, .long (i64 (j 4))), (6, .int (i32 (j 6))), (7, .int (i32 (j 7)))], [.long (i64 u0)], (khp m c, N), 0, 0) (QS (FP2 (khp m c, N)) (kfl_nd_reckon_346 u0 m)) := by
  unfold kfl_nd_reckon_346
  show PP bb w D pm_184 (346, [(0, .ref 22), (1, .int (i32 (j 1))), (2, .long (i64 (j 2))), (4, .long (i64 (j 4))), (6, .int (i32 (j 6))), (7, .int (i32 (j 7)))], [.long (i64 u0)], (khp (mO m [] []) c, N), 0, 0) _
  exact P_rp2 rfl rfl r0
def kfl_nd_reckon_325 (u0 : Int) (m : mR) : Option Int :=
  some u0
theorem dg_nd_reckon_325 (B : oB) (w : wX) (c : Nat → Option am_C) (N D : Nat) (bb : Nat) (u0 : Int) (r0 : R64 u0) (m : mR) (hm : KCo B m) (j : Nat → Int) : PP bb w D pm_184 (325, [(0, .ref 22), (1, .int (i32 (j 1))), (2, .long (i64 (j 2))), (4, .long (i64 (j 4))), (6, .int (i32 (j 6))), (7, .int (i32 (j 7)))], [.long (i64 u0)], (khp m c, N), 0, 0) (QS (FP2 (khp m c, N)) (kfl_nd_reckon_325 u0 m)) := by
  unfold kfl_nd_reckon_325
  show PP bb w D pm_184 (325, [(0, .ref 22), (1, .int (i32 (j 1))), (2, .long (i64 (j 2))), (4, .long (i64 (j 4))), (6, .int (i32 (j 6))), (7, .int (i32 (j 7)))], [.long (i64 u0)], (khp (mO m [] []) c, N), 0, 0) _
  exact P_rp2 rfl rfl r0
def kfl_nd_reckon_304 (u0 : Int) (m : mR) : Option Int :=
  some u0
theorem dg_nd_reckon_304 (B : oB) (w : wX) (c : Nat → Option am_C) (N D : Nat) (bb : Nat) (u0 : Int) (r0 : R64 u0) (m : mR) (hm : KCo B m) (j : Nat → Int) : PP bb w D pm_184 (304, [(0, .ref 22), (1, .int (i32 (j 1))), (2, .long (i64 (j 2))), (4, .long (i64 (j 4))), (6, .int (i32 (j 6))), (7, .int (i32 (j 7)))], [.long (i64 u0)], (khp m c, N), 0, 0) (QS (FP2 (khp m c, N)) (kfl_nd_reckon_304 u0 m)) := by
  unfold kfl_nd_reckon_304
  show PP bb w D pm_184 (304, [(0, .ref 22), (1, .int (i32 (j 1))), (2, .long (i64 (j 2))), (4, .long (i64 (j 4))), (6, .int (i32 (j 6))), (7, .int (i32 (j 7)))], [.long (i64 u0)], (khp (mO m [] []) c, N), 0, 0) _
  exact P_rp2 rfl rfl r0
def kfl_nd_reckon_283 (u0 : Int) (m : mR) : Option Int :=
  some u0
theorem dg_nd_reckon_283 (B : oB) (w : wX) (c : Nat → Option am_C) (N D : Nat) (bb : Nat) (u0 : Int) (r0 : R64 u0) (m : mR) (hm : KCo B m) (j : Nat → Int) : PP bb w D pm_184 (283, [(0, .ref 22), (1, .int (i32 (j 1))), (2, .long (i64 (j 2))), (4, .long (i64 (j 4))), (6, .int (i32 (j 6))), (7, .int (i32 (j 7)))], [.long (i64 u0)], (khp m c, N), 0, 0) (QS (FP2 (khp m c, N)) (kfl_nd_reckon_283 u0 m)) := by
  unfold kfl_nd_reckon_283
  show PP bb w D pm_184 (283, [(0, .ref 22), (1, .int (i32 (j 1))), (2, .long (i64 (j 2))), (4, .long (i64 (j 4))), (6, .int (i32 (j 6))), (7, .int (i32 (j 7)))], [.long (i64 u0)], (khp (mO m [] []) c, N), 0, 0) _
  exact P_rp2 rfl rfl r0
def kfl_nd_reckon_270 (u0 : Int) (m : mR) : Option Int :=
  some u0
theorem dg_nd_reckon_270 (B : oB) (w : wX) (c : Nat → Option am_C) (N D : Nat) (bb : Nat) (u0 : Int) (r0 : R64 u0) (m : mR) (hm : KCo B m) (j : Nat → Int) : PP bb w D pm_184 (270, [(0, .ref 22), (1, .int (i32 (j 1))), (2, .long (i64 (j 2))), (4, .long (i64 (j 4))), (6, .int (i32 (j 6))), (7, .int (i32 (j 7)))], [.long (i64 u0)], (khp m c, N), 0, 0) (QS (FP2 (khp m c, N)) (kfl_nd_reckon_270 u0 m)) := by
  unfold kfl_nd_reckon_270
  show PP bb w D pm_184 (270, [(0, .ref 22), (1, .int (i32 (j 1))), (2, .long (i64 (j 2))), (4, .long (i64 (j 4))), (6, .int (i32 (j 6))), (7, .int (i32 (j 7)))], [.long (i64 u0)], (khp (mO m [] []) c, N), 0, 0) _
  exact P_rp2 rfl rfl r0
def kfl_nd_reckon_257 (u0 : Int) (m : mR) : Option Int :=
  some u0
theorem dg_nd_reckon_257 (B : oB) (w : wX) (c : Nat → Option am_C) (N D : Nat) (bb : Nat) (u0 : Int) (r0 : R64 u0) (m : mR) (hm : KCo B m) (j : Nat → Int) : PP bb w D pm_184 (257, [(0, .ref 22), (1, .int (i32 (j 1))), (2, .long (i64 (j 2))), (4, .long (i64 (j 4))), (6, .int (i32 (j 6))), (7, .int (i32 (j 7)))], [.long (i64 u0)], (khp m c, N), 0, 0) (QS (FP2 (khp m c, N)) (kfl_nd_reckon_257 u0 m)) := by
  unfold kfl_nd_reckon_257
  show PP bb w D pm_184 (257, [(0, .ref 22), (1, .int (i32 (j 1))), (2, .long (i64 (j 2))), (4, .long (i64 (j 4))), (6, .int (i32 (j 6))), (7, .int (i32 (j 7)))], [.long (i64 u0)], (khp (mO m [] []) c, N), 0, 0) _
  exact P_rp2 rfl rfl r0
def kfl_nd_reckon_242 (u0 : Int) (m : mR) : Option Int :=
  some u0
theorem dg_nd_reckon_242 (B : oB) (w : wX) (c : Nat → Option am_C) (N D : Nat) (bb : Nat) (u0 : Int) (r0 : R64 u0) (m : mR) (hm : KCo B m) (j : Nat → Int) : PP bb w D pm_184 (242, [(0, .ref 22), (1, .int (i32 (j 1))), (2, .long (i64 (j 2))), (4, .long (i64 (j 4))), (6, .int (i32 (j 6))), (7, .int (i32 (j 7)))], [.long (i64 u0)], (khp m c, N), 0, 0) (QS (FP2 (khp m c, N)) (kfl_nd_reckon_242 u0 m)) := by
  unfold kfl_nd_reckon_242
  show PP bb w D pm_184 (242, [(0, .ref 22), (1, .int (i32 (j 1))), (2, .long (i64 (j 2))), (4, .long (i64 (j 4))), (6, .int (i32 (j 6))), (7, .int (i32 (j 7)))], [.long (i64 u0)], (khp (mO m [] []) c, N), 0, 0) _
  exact P_rp2 rfl rfl r0
def kfl_nd_reckon_218 (v2 : Int) (v4 : Int) (m : mR) : Option Int :=
  some (or64 v2 v4)
theorem dg_nd_reckon_218 (B : oB) (w : wX) (c : Nat → Option am_C) (N D : Nat) (bb : Nat) (v2 : Int) (v4 : Int) (q2 : R64 v2) (q4 : R64 v4) (m : mR) (hm : KCo B m) (j : Nat → Int) : PP bb w D pm_184 (218, [(0, .ref 22), (1, .int (i32 (j 1))), (2, .long (i64 v2)), (4, .long (i64 v4)), (6, .int (i32 (j 6))), (7, .int (i32 (j 7)))], [], (khp m c, N), 0, 0) (QS (FP2 (khp m c, N)) (kfl_nd_reckon_218 v2 v4 m)) := by
  unfold kfl_nd_reckon_218
  show PP bb w D pm_184 (218, [(0, .ref 22), (1, .int (i32 (j 1))), (2, .long (i64 v2)), (4, .long (i64 v4)), (6, .int (i32 (j 6))), (7, .int (i32 (j 7)))], [], (khp (mO m [] []) c, N), 0, 0) _
  refine P_ld 219 (.long (i64 v2)) rfl (fun _ => rfl) ?_
  refine P_ld 221 (.long (i64 v4)) rfl (fun _ => rfl) ?_
  refine P_opl 222 (or64 v2 v4) _ rfl (fun _ => rfl) (Int64.ofInt_toInt _).symm ?_
  exact P_rp2 rfl rfl t64_r
def kfl_nd_reckon_213 (v2 : Int) (v4 : Int) (m : mR) : Option Int :=
  some (and64 v2 v4)
theorem dg_nd_reckon_213 (B : oB) (w : wX) (c : Nat → Option am_C) (N D : Nat) (bb : Nat) (v2 : Int) (v4 : Int) (q2 : R64 v2) (q4 : R64 v4) (m : mR) (hm : KCo B m) (j : Nat → Int) : PP bb w D pm_184 (213, [(0, .ref 22), (1, .int (i32 (j 1))), (2, .long (i64 v2)), (4, .long (i64 v4)), (6, .int (i32 (j 6))), (7, .int (i32 (j 7)))], [], (khp m c, N), 0, 0) (QS (FP2 (khp m c, N)) (kfl_nd_reckon_213 v2 v4 m)) := by
  unfold kfl_nd_reckon_213
  show PP bb w D pm_184 (213, [(0, .ref 22), (1, .int (i32 (j 1))), (2, .long (i64 v2)), (4, .long (i64 v4)), (6, .int (i32 (j 6))), (7, .int (i32 (j 7)))], [], (khp (mO m [] []) c, N), 0, 0) _
  refine P_ld 214 (.long (i64 v2)) rfl (fun _ => rfl) ?_
  refine P_ld 216 (.long (i64 v4)) rfl (fun _ => rfl) ?_
  refine P_opl 217 (and64 v2 v4) _ rfl (fun _ => rfl) (Int64.ofInt_toInt _).symm ?_
  exact P_rp2 rfl rfl t64_r
def kfl_nd_reckon_21 (v1 : Int) (v2 : Int) (v4 : Int) (u0 : Int) (m : mR) : Option Int :=
  if v1 = 33 then
    some (xor64 v2 1)
  else
    if v1 = 38 then
      kfl_nd_reckon_213 v2 v4 m
    else
      if v1 = 43 then
        some (cutl (v2 + v4))
      else
        if v1 = 45 then
          some (cutl (v2 - v4))
        else
          if v1 = 60 then
            if (0 : Int) ≤ cmp64 (cutl (v2 + (-9223372036854775808))) (cutl (v4 + (-9223372036854775808))) then
              kfl_nd_reckon_304 0 m
            else
              kfl_nd_reckon_304 1 m
          else
            if v1 = 62 then
              if cmp64 (cutl (v2 + (-9223372036854775808))) (cutl (v4 + (-9223372036854775808))) ≤ 0 then
                kfl_nd_reckon_346 0 m
              else
                kfl_nd_reckon_346 1 m
            else
              if v1 = 94 then
                some (xor64 v2 v4)
              else
                if v1 = 124 then
                  kfl_nd_reckon_218 v2 v4 m
                else
                  if v1 = 126 then
                    some (xor64 v2 (-1))
                  else
                    if v1 = 403 then
                      some v2
                    else
                      if v1 = 405 then
                        some (neg64 v2)
                      else
                        if v1 = 8509 then
                          if cmp64 v2 v4 = 0 then
                            kfl_nd_reckon_283 0 m
                          else
                            kfl_nd_reckon_283 1 m
                        else
                          if v1 = 9766 then
                            kfl_nd_reckon_213 v2 v4 m
                          else
                            if v1 = 15420 then
                              if u0 = 0 then
                                kfl_nd_reckon_242 0 m
                              else
                                kfl_nd_reckon_242 (shl64 v2 (cut v4)) m
                            else
                              if v1 = 15421 then
                                if (0 : Int) < cmp64 (cutl (v2 + (-9223372036854775808))) (cutl (v4 + (-9223372036854775808))) then
                                  kfl_nd_reckon_325 0 m
                                else
                                  kfl_nd_reckon_325 1 m
                              else
                                if v1 = 15677 then
                                  if cmp64 v2 v4 = 0 then
                                    kfl_nd_reckon_270 1 m
                                  else
                                    kfl_nd_reckon_270 0 m
                                else
                                  if v1 = 15933 then
                                    if cmp64 (cutl (v2 + (-9223372036854775808))) (cutl (v4 + (-9223372036854775808))) < 0 then
                                      kfl_nd_reckon_367 0 m
                                    else
                                      kfl_nd_reckon_367 1 m
                                  else
                                    if v1 = 15934 then
                                      if u0 = 0 then
                                        kfl_nd_reckon_257 0 m
                                      else
                                        kfl_nd_reckon_257 (ushr64 v2 (cut v4)) m
                                    else
                                      if v1 = 31868 then
                                        kfl_nd_reckon_218 v2 v4 m
                                      else
                                        some 0
theorem dg_nd_reckon_21 (B : oB) (w : wX) (c : Nat → Option am_C) (N D : Nat) (bb : Nat) (v1 : Int) (v2 : Int) (v4 : Int) (u0 : Int) (q1 : R32 v1) (q2 : R64 v2) (q4 : R64 v4) (r0 : R32 u0) (m : mR) (hm : KCo B m) (j : Nat → Int) : PP bb w D pm_184 (21, [(0, .ref 22), (1, .int (i32 v1)), (2, .long (i64 v2)), (4, .long (i64 v4)), (6, .int (i32 (j 6)))], [.int (i32 u0)], (khp m c, N), 0, 0) (QS (FP2 (khp m c, N)) (kfl_nd_reckon_21 v1 v2 v4 u0 m)) := by
  unfold kfl_nd_reckon_21
  show PP bb w D pm_184 (21, [(0, .ref 22), (1, .int (i32 v1)), (2, .long (i64 v2)), (4, .long (i64 v4)), (6, .int (i32 (j 6)))], [.int (i32 u0)], (khp (mO m [] []) c, N), 0, 0) _
  refine P_sto 23 [(7, .int (i32 u0)), (0, .ref 22), (1, .int (i32 v1)), (2, .long (i64 v2)), (4, .long (i64 v4)), (6, .int (i32 (j 6)))] rfl (fun _ => rfl) ?_
  refine P_ld 24 (.int (i32 v1)) rfl (fun _ => rfl) ?_
  refine P_cs (fun h1 => ?_) (fun h1 => ?_)
  · skip
    refine P_cast 33 h1 ?_
    refine P_pop 199 rfl (fun _ => rfl) ?_
    refine P_ld 200 (.long (i64 v2)) rfl (fun _ => rfl) ?_
    refine P_ld 201 (.long (i64 1)) rfl (fun _ => rfl) ?_
    refine P_opl 202 (xor64 v2 1) _ rfl (fun _ => rfl) (Int64.ofInt_toInt _).symm ?_
    exact P_rp2 rfl rfl t64_r
  · skip
    refine P_cs (fun h2 => ?_) (fun h2 => ?_)
    · skip
      refine P_cast 38 h2 ?_
      refine P_pop 213 rfl (fun _ => rfl) ?_
      refine P_lv (b := [(0, .ref 22), (1, .int (i32 v1)), (2, .long (i64 v2)), (4, .long (i64 v4)), (6, .int (i32 (j 6))), (7, .int (i32 u0))]) rfl rfl ⟨rfl, rfl, rfl, rfl, rfl, rfl, trivial⟩ ?_
      exact dg_nd_reckon_213 B w c N D bb v2 v4 q2 q4 m hm (jk [(1, v1), (6, j 6), (7, u0)])
    · skip
      refine P_cs (fun h3 => ?_) (fun h3 => ?_)
      · skip
        refine P_cast 43 h3 ?_
        refine P_pop 203 rfl (fun _ => rfl) ?_
        refine P_ld 204 (.long (i64 v2)) rfl (fun _ => rfl) ?_
        refine P_ld 206 (.long (i64 v4)) rfl (fun _ => rfl) ?_
        refine P_opl 207 (cutl (v2 + v4)) _ rfl (fun _ => rfl) p_add ?_
        exact P_rp2 rfl rfl cutl_r
      · skip
        refine P_cs (fun h4 => ?_) (fun h4 => ?_)
        · skip
          refine P_cast 45 h4 ?_
          refine P_pop 208 rfl (fun _ => rfl) ?_
          refine P_ld 209 (.long (i64 v2)) rfl (fun _ => rfl) ?_
          refine P_ld 211 (.long (i64 v4)) rfl (fun _ => rfl) ?_
          refine P_opl 212 (cutl (v2 - v4)) _ rfl (fun _ => rfl) p_sub ?_
          exact P_rp2 rfl rfl cutl_r
        · skip
          refine P_cs (fun h5 => ?_) (fun h5 => ?_)
          · skip
            refine P_cast 60 h5 ?_
            refine P_pop 284 rfl (fun _ => rfl) ?_
            refine P_ld 285 (.long (i64 v2)) rfl (fun _ => rfl) ?_
            refine P_ld 288 (.long (i64 (-9223372036854775808))) rfl (fun _ => rfl) ?_
            refine P_opl 289 (cutl (v2 + (-9223372036854775808))) _ rfl (fun _ => rfl) p_add ?_
            refine P_ld 291 (.long (i64 v4)) rfl (fun _ => rfl) ?_
            refine P_ld 294 (.long (i64 (-9223372036854775808))) rfl (fun _ => rfl) ?_
            refine P_opl 295 (cutl (v4 + (-9223372036854775808))) _ rfl (fun _ => rfl) p_add ?_
            refine P_op 296 (cmp64 (cutl (v2 + (-9223372036854775808))) (cutl (v4 + (-9223372036854775808)))) _ rfl (fun _ => rfl) (o_cmp cutl_r cutl_r) ?_
            refine P_ifF 303 299 rfl rfl rfl cmp64_r rfl (fun h6 => ?_) (fun h6 => ?_)
            · skip
              refine P_ld 304 (.long (i64 0)) rfl (fun _ => rfl) ?_
              refine P_lv (b := [(0, .ref 22), (1, .int (i32 v1)), (2, .long (i64 v2)), (4, .long (i64 v4)), (6, .int (i32 (j 6))), (7, .int (i32 u0))]) rfl rfl ⟨rfl, rfl, rfl, rfl, rfl, rfl, trivial⟩ ?_
              exact dg_nd_reckon_304 B w c N D bb 0 (l64 0 rfl) m hm (jk [(1, v1), (2, v2), (4, v4), (6, j 6), (7, u0)])
            · skip
              refine P_ld 300 (.long (i64 1)) rfl (fun _ => rfl) ?_
              refine P_goto 304 rfl (fun _ => rfl) ?_
              refine P_lv (b := [(0, .ref 22), (1, .int (i32 v1)), (2, .long (i64 v2)), (4, .long (i64 v4)), (6, .int (i32 (j 6))), (7, .int (i32 u0))]) rfl rfl ⟨rfl, rfl, rfl, rfl, rfl, rfl, trivial⟩ ?_
              exact dg_nd_reckon_304 B w c N D bb 1 (l64 1 rfl) m hm (jk [(1, v1), (2, v2), (4, v4), (6, j 6), (7, u0)])
          · skip
            refine P_cs (fun h7 => ?_) (fun h7 => ?_)
            · skip
              refine P_cast 62 h7 ?_
              refine P_pop 326 rfl (fun _ => rfl) ?_
              refine P_ld 327 (.long (i64 v2)) rfl (fun _ => rfl) ?_
              refine P_ld 330 (.long (i64 (-9223372036854775808))) rfl (fun _ => rfl) ?_
              refine P_opl 331 (cutl (v2 + (-9223372036854775808))) _ rfl (fun _ => rfl) p_add ?_
              refine P_ld 333 (.long (i64 v4)) rfl (fun _ => rfl) ?_
              refine P_ld 336 (.long (i64 (-9223372036854775808))) rfl (fun _ => rfl) ?_
              refine P_opl 337 (cutl (v4 + (-9223372036854775808))) _ rfl (fun _ => rfl) p_add ?_
              refine P_op 338 (cmp64 (cutl (v2 + (-9223372036854775808))) (cutl (v4 + (-9223372036854775808)))) _ rfl (fun _ => rfl) (o_cmp cutl_r cutl_r) ?_
              refine P_ifF 345 341 rfl rfl rfl cmp64_r rfl (fun h8 => ?_) (fun h8 => ?_)
              · skip
                refine P_ld 346 (.long (i64 0)) rfl (fun _ => rfl) ?_
                refine P_lv (b := [(0, .ref 22), (1, .int (i32 v1)), (2, .long (i64 v2)), (4, .long (i64 v4)), (6, .int (i32 (j 6))), (7, .int (i32 u0))]) rfl rfl ⟨rfl, rfl, rfl, rfl, rfl, rfl, trivial⟩ ?_
                exact dg_nd_reckon_346 B w c N D bb 0 (l64 0 rfl) m hm (jk [(1, v1), (2, v2), (4, v4), (6, j 6), (7, u0)])
              · skip
                refine P_ld 342 (.long (i64 1)) rfl (fun _ => rfl) ?_
                refine P_goto 346 rfl (fun _ => rfl) ?_
                refine P_lv (b := [(0, .ref 22), (1, .int (i32 v1)), (2, .long (i64 v2)), (4, .long (i64 v4)), (6, .int (i32 (j 6))), (7, .int (i32 u0))]) rfl rfl ⟨rfl, rfl, rfl, rfl, rfl, rfl, trivial⟩ ?_
                exact dg_nd_reckon_346 B w c N D bb 1 (l64 1 rfl) m hm (jk [(1, v1), (2, v2), (4, v4), (6, j 6), (7, u0)])
            · skip
              refine P_cs (fun h9 => ?_) (fun h9 => ?_)
              · skip
                refine P_cast 94 h9 ?_
                refine P_pop 223 rfl (fun _ => rfl) ?_
                refine P_ld 224 (.long (i64 v2)) rfl (fun _ => rfl) ?_
                refine P_ld 226 (.long (i64 v4)) rfl (fun _ => rfl) ?_
                refine P_opl 227 (xor64 v2 v4) _ rfl (fun _ => rfl) (Int64.ofInt_toInt _).symm ?_
                exact P_rp2 rfl rfl t64_r
              · skip
                refine P_cs (fun h10 => ?_) (fun h10 => ?_)
                · skip
                  refine P_cast 124 h10 ?_
                  refine P_pop 218 rfl (fun _ => rfl) ?_
                  refine P_lv (b := [(0, .ref 22), (1, .int (i32 v1)), (2, .long (i64 v2)), (4, .long (i64 v4)), (6, .int (i32 (j 6))), (7, .int (i32 u0))]) rfl rfl ⟨rfl, rfl, rfl, rfl, rfl, rfl, trivial⟩ ?_
                  exact dg_nd_reckon_218 B w c N D bb v2 v4 q2 q4 m hm (jk [(1, v1), (6, j 6), (7, u0)])
                · skip
                  refine P_cs (fun h11 => ?_) (fun h11 => ?_)
                  · skip
                    refine P_cast 126 h11 ?_
                    refine P_pop 193 rfl (fun _ => rfl) ?_
                    refine P_ld 194 (.long (i64 v2)) rfl (fun _ => rfl) ?_
                    refine P_ld 197 (.long (i64 (-1))) rfl (fun _ => rfl) ?_
                    refine P_opl 198 (xor64 v2 (-1)) _ rfl (fun _ => rfl) (Int64.ofInt_toInt _).symm ?_
                    exact P_rp2 rfl rfl t64_r
                  · skip
                    refine P_cs (fun h12 => ?_) (fun h12 => ?_)
                    · skip
                      refine P_cast 403 h12 ?_
                      refine P_pop 188 rfl (fun _ => rfl) ?_
                      refine P_ld 189 (.long (i64 v2)) rfl (fun _ => rfl) ?_
                      exact P_rp2 rfl rfl q2
                    · skip
                      refine P_cs (fun h13 => ?_) (fun h13 => ?_)
                      · skip
                        refine P_cast 405 h13 ?_
                        refine P_pop 190 rfl (fun _ => rfl) ?_
                        refine P_ld 191 (.long (i64 v2)) rfl (fun _ => rfl) ?_
                        refine P_opl 192 (neg64 v2) _ rfl (fun _ => rfl) (Int64.ofInt_toInt _).symm ?_
                        exact P_rp2 rfl rfl t64_r
                      · skip
                        refine P_cs (fun h14 => ?_) (fun h14 => ?_)
                        · skip
                          refine P_cast 8509 h14 ?_
                          refine P_pop 271 rfl (fun _ => rfl) ?_
                          refine P_ld 272 (.long (i64 v2)) rfl (fun _ => rfl) ?_
                          refine P_ld 274 (.long (i64 v4)) rfl (fun _ => rfl) ?_
                          refine P_op 275 (cmp64 v2 v4) _ rfl (fun _ => rfl) (o_cmp q2 q4) ?_
                          refine P_ifF 282 278 rfl rfl rfl cmp64_r rfl (fun h15 => ?_) (fun h15 => ?_)
                          · skip
                            refine P_ld 283 (.long (i64 0)) rfl (fun _ => rfl) ?_
                            refine P_lv (b := [(0, .ref 22), (1, .int (i32 v1)), (2, .long (i64 v2)), (4, .long (i64 v4)), (6, .int (i32 (j 6))), (7, .int (i32 u0))]) rfl rfl ⟨rfl, rfl, rfl, rfl, rfl, rfl, trivial⟩ ?_
                            exact dg_nd_reckon_283 B w c N D bb 0 (l64 0 rfl) m hm (jk [(1, v1), (2, v2), (4, v4), (6, j 6), (7, u0)])
                          · skip
                            refine P_ld 279 (.long (i64 1)) rfl (fun _ => rfl) ?_
                            refine P_goto 283 rfl (fun _ => rfl) ?_
                            refine P_lv (b := [(0, .ref 22), (1, .int (i32 v1)), (2, .long (i64 v2)), (4, .long (i64 v4)), (6, .int (i32 (j 6))), (7, .int (i32 u0))]) rfl rfl ⟨rfl, rfl, rfl, rfl, rfl, rfl, trivial⟩ ?_
                            exact dg_nd_reckon_283 B w c N D bb 1 (l64 1 rfl) m hm (jk [(1, v1), (2, v2), (4, v4), (6, j 6), (7, u0)])
                        · skip
                          refine P_cs (fun h16 => ?_) (fun h16 => ?_)
                          · skip
                            refine P_cast 9766 h16 ?_
                            refine P_pop 213 rfl (fun _ => rfl) ?_
                            refine P_lv (b := [(0, .ref 22), (1, .int (i32 v1)), (2, .long (i64 v2)), (4, .long (i64 v4)), (6, .int (i32 (j 6))), (7, .int (i32 u0))]) rfl rfl ⟨rfl, rfl, rfl, rfl, rfl, rfl, trivial⟩ ?_
                            exact dg_nd_reckon_213 B w c N D bb v2 v4 q2 q4 m hm (jk [(1, v1), (6, j 6), (7, u0)])
                          · skip
                            refine P_cs (fun h17 => ?_) (fun h17 => ?_)
                            · skip
                              refine P_cast 15420 h17 ?_
                              refine P_pop 228 rfl (fun _ => rfl) ?_
                              refine P_ld 230 (.int (i32 u0)) rfl (fun _ => rfl) ?_
                              refine P_ifF 241 233 rfl rfl rfl r0 rfl (fun h18 => ?_) (fun h18 => ?_)
                              · skip
                                refine P_ld 242 (.long (i64 0)) rfl (fun _ => rfl) ?_
                                refine P_lv (b := [(0, .ref 22), (1, .int (i32 v1)), (2, .long (i64 v2)), (4, .long (i64 v4)), (6, .int (i32 (j 6))), (7, .int (i32 u0))]) rfl rfl ⟨rfl, rfl, rfl, rfl, rfl, rfl, trivial⟩ ?_
                                exact dg_nd_reckon_242 B w c N D bb 0 (l64 0 rfl) m hm (jk [(1, v1), (2, v2), (4, v4), (6, j 6), (7, u0)])
                              · skip
                                refine P_ld 234 (.long (i64 v2)) rfl (fun _ => rfl) ?_
                                refine P_ld 236 (.long (i64 v4)) rfl (fun _ => rfl) ?_
                                refine P_op 237 (cut v4) _ rfl (fun _ => rfl) o_l2i ?_
                                refine P_opl 238 (shl64 v2 (cut v4)) _ rfl (fun _ => rfl) (Int64.ofInt_toInt _).symm ?_
                                refine P_goto 242 rfl (fun _ => rfl) ?_
                                refine P_lv (b := [(0, .ref 22), (1, .int (i32 v1)), (2, .long (i64 v2)), (4, .long (i64 v4)), (6, .int (i32 (j 6))), (7, .int (i32 u0))]) rfl rfl ⟨rfl, rfl, rfl, rfl, rfl, rfl, trivial⟩ ?_
                                exact dg_nd_reckon_242 B w c N D bb (shl64 v2 (cut v4)) t64_r m hm (jk [(1, v1), (2, v2), (4, v4), (6, j 6), (7, u0)])
                            · skip
                              refine P_cs (fun h19 => ?_) (fun h19 => ?_)
                              · skip
                                refine P_cast 15421 h19 ?_
                                refine P_pop 305 rfl (fun _ => rfl) ?_
                                refine P_ld 306 (.long (i64 v2)) rfl (fun _ => rfl) ?_
                                refine P_ld 309 (.long (i64 (-9223372036854775808))) rfl (fun _ => rfl) ?_
                                refine P_opl 310 (cutl (v2 + (-9223372036854775808))) _ rfl (fun _ => rfl) p_add ?_
                                refine P_ld 312 (.long (i64 v4)) rfl (fun _ => rfl) ?_
                                refine P_ld 315 (.long (i64 (-9223372036854775808))) rfl (fun _ => rfl) ?_
                                refine P_opl 316 (cutl (v4 + (-9223372036854775808))) _ rfl (fun _ => rfl) p_add ?_
                                refine P_op 317 (cmp64 (cutl (v2 + (-9223372036854775808))) (cutl (v4 + (-9223372036854775808)))) _ rfl (fun _ => rfl) (o_cmp cutl_r cutl_r) ?_
                                refine P_ifF 324 320 rfl rfl rfl cmp64_r rfl (fun h20 => ?_) (fun h20 => ?_)
                                · skip
                                  refine P_ld 325 (.long (i64 0)) rfl (fun _ => rfl) ?_
                                  refine P_lv (b := [(0, .ref 22), (1, .int (i32 v1)), (2, .long (i64 v2)), (4, .long (i64 v4)), (6, .int (i32 (j 6))), (7, .int (i32 u0))]) rfl rfl ⟨rfl, rfl, rfl, rfl, rfl, rfl, trivial⟩ ?_
                                  exact dg_nd_reckon_325 B w c N D bb 0 (l64 0 rfl) m hm (jk [(1, v1), (2, v2), (4, v4), (6, j 6), (7, u0)])
                                · skip
                                  refine P_ld 321 (.long (i64 1)) rfl (fun _ => rfl) ?_
                                  refine P_goto 325 rfl (fun _ => rfl) ?_
                                  refine P_lv (b := [(0, .ref 22), (1, .int (i32 v1)), (2, .long (i64 v2)), (4, .long (i64 v4)), (6, .int (i32 (j 6))), (7, .int (i32 u0))]) rfl rfl ⟨rfl, rfl, rfl, rfl, rfl, rfl, trivial⟩ ?_
                                  exact dg_nd_reckon_325 B w c N D bb 1 (l64 1 rfl) m hm (jk [(1, v1), (2, v2), (4, v4), (6, j 6), (7, u0)])
                              · skip
                                refine P_cs (fun h21 => ?_) (fun h21 => ?_)
                                · skip
                                  refine P_cast 15677 h21 ?_
                                  refine P_pop 258 rfl (fun _ => rfl) ?_
                                  refine P_ld 259 (.long (i64 v2)) rfl (fun _ => rfl) ?_
                                  refine P_ld 261 (.long (i64 v4)) rfl (fun _ => rfl) ?_
                                  refine P_op 262 (cmp64 v2 v4) _ rfl (fun _ => rfl) (o_cmp q2 q4) ?_
                                  refine P_ifE 269 265 rfl rfl rfl cmp64_r rfl (fun h22 => ?_) (fun h22 => ?_)
                                  · skip
                                    refine P_ld 266 (.long (i64 1)) rfl (fun _ => rfl) ?_
                                    refine P_goto 270 rfl (fun _ => rfl) ?_
                                    refine P_lv (b := [(0, .ref 22), (1, .int (i32 v1)), (2, .long (i64 v2)), (4, .long (i64 v4)), (6, .int (i32 (j 6))), (7, .int (i32 u0))]) rfl rfl ⟨rfl, rfl, rfl, rfl, rfl, rfl, trivial⟩ ?_
                                    exact dg_nd_reckon_270 B w c N D bb 1 (l64 1 rfl) m hm (jk [(1, v1), (2, v2), (4, v4), (6, j 6), (7, u0)])
                                  · skip
                                    refine P_ld 270 (.long (i64 0)) rfl (fun _ => rfl) ?_
                                    refine P_lv (b := [(0, .ref 22), (1, .int (i32 v1)), (2, .long (i64 v2)), (4, .long (i64 v4)), (6, .int (i32 (j 6))), (7, .int (i32 u0))]) rfl rfl ⟨rfl, rfl, rfl, rfl, rfl, rfl, trivial⟩ ?_
                                    exact dg_nd_reckon_270 B w c N D bb 0 (l64 0 rfl) m hm (jk [(1, v1), (2, v2), (4, v4), (6, j 6), (7, u0)])
                                · skip
                                  refine P_cs (fun h23 => ?_) (fun h23 => ?_)
                                  · skip
                                    refine P_cast 15933 h23 ?_
                                    refine P_pop 347 rfl (fun _ => rfl) ?_
                                    refine P_ld 348 (.long (i64 v2)) rfl (fun _ => rfl) ?_
                                    refine P_ld 351 (.long (i64 (-9223372036854775808))) rfl (fun _ => rfl) ?_
                                    refine P_opl 352 (cutl (v2 + (-9223372036854775808))) _ rfl (fun _ => rfl) p_add ?_
                                    refine P_ld 354 (.long (i64 v4)) rfl (fun _ => rfl) ?_
                                    refine P_ld 357 (.long (i64 (-9223372036854775808))) rfl (fun _ => rfl) ?_
                                    refine P_opl 358 (cutl (v4 + (-9223372036854775808))) _ rfl (fun _ => rfl) p_add ?_
                                    refine P_op 359 (cmp64 (cutl (v2 + (-9223372036854775808))) (cutl (v4 + (-9223372036854775808)))) _ rfl (fun _ => rfl) (o_cmp cutl_r cutl_r) ?_
                                    refine P_ifF 366 362 rfl rfl rfl cmp64_r rfl (fun h24 => ?_) (fun h24 => ?_)
                                    · skip
                                      refine P_ld 367 (.long (i64 0)) rfl (fun _ => rfl) ?_
                                      refine P_lv (b := [(0, .ref 22), (1, .int (i32 v1)), (2, .long (i64 v2)), (4, .long (i64 v4)), (6, .int (i32 (j 6))), (7, .int (i32 u0))]) rfl rfl ⟨rfl, rfl, rfl, rfl, rfl, rfl, trivial⟩ ?_
                                      exact dg_nd_reckon_367 B w c N D bb 0 (l64 0 rfl) m hm (jk [(1, v1), (2, v2), (4, v4), (6, j 6), (7, u0)])
                                    · skip
                                      refine P_ld 363 (.long (i64 1)) rfl (fun _ => rfl) ?_
                                      refine P_goto 367 rfl (fun _ => rfl) ?_
                                      refine P_lv (b := [(0, .ref 22), (1, .int (i32 v1)), (2, .long (i64 v2)), (4, .long (i64 v4)), (6, .int (i32 (j 6))), (7, .int (i32 u0))]) rfl rfl ⟨rfl, rfl, rfl, rfl, rfl, rfl, trivial⟩ ?_
                                      exact dg_nd_reckon_367 B w c N D bb 1 (l64 1 rfl) m hm (jk [(1, v1), (2, v2), (4, v4), (6, j 6), (7, u0)])
                                  · skip
                                    refine P_cs (fun h25 => ?_) (fun h25 => ?_)
                                    · skip
                                      refine P_cast 15934 h25 ?_
                                      refine P_pop 243 rfl (fun _ => rfl) ?_
                                      refine P_ld 245 (.int (i32 u0)) rfl (fun _ => rfl) ?_
                                      refine P_ifF 256 248 rfl rfl rfl r0 rfl (fun h26 => ?_) (fun h26 => ?_)
                                      · skip
                                        refine P_ld 257 (.long (i64 0)) rfl (fun _ => rfl) ?_
                                        refine P_lv (b := [(0, .ref 22), (1, .int (i32 v1)), (2, .long (i64 v2)), (4, .long (i64 v4)), (6, .int (i32 (j 6))), (7, .int (i32 u0))]) rfl rfl ⟨rfl, rfl, rfl, rfl, rfl, rfl, trivial⟩ ?_
                                        exact dg_nd_reckon_257 B w c N D bb 0 (l64 0 rfl) m hm (jk [(1, v1), (2, v2), (4, v4), (6, j 6), (7, u0)])
                                      · skip
                                        refine P_ld 249 (.long (i64 v2)) rfl (fun _ => rfl) ?_
                                        refine P_ld 251 (.long (i64 v4)) rfl (fun _ => rfl) ?_
                                        refine P_op 252 (cut v4) _ rfl (fun _ => rfl) o_l2i ?_
                                        refine P_opl 253 (ushr64 v2 (cut v4)) _ rfl (fun _ => rfl) (Int64.ofInt_toInt _).symm ?_
                                        refine P_goto 257 rfl (fun _ => rfl) ?_
                                        refine P_lv (b := [(0, .ref 22), (1, .int (i32 v1)), (2, .long (i64 v2)), (4, .long (i64 v4)), (6, .int (i32 (j 6))), (7, .int (i32 u0))]) rfl rfl ⟨rfl, rfl, rfl, rfl, rfl, rfl, trivial⟩ ?_
                                        exact dg_nd_reckon_257 B w c N D bb (ushr64 v2 (cut v4)) t64_r m hm (jk [(1, v1), (2, v2), (4, v4), (6, j 6), (7, u0)])
                                    · skip
                                      refine P_cs (fun h27 => ?_) (fun h27 => ?_)
                                      · skip
                                        refine P_cast 31868 h27 ?_
                                        refine P_pop 218 rfl (fun _ => rfl) ?_
                                        refine P_lv (b := [(0, .ref 22), (1, .int (i32 v1)), (2, .long (i64 v2)), (4, .long (i64 v4)), (6, .int (i32 (j 6))), (7, .int (i32 u0))]) rfl rfl ⟨rfl, rfl, rfl, rfl, rfl, rfl, trivial⟩ ?_
                                        exact dg_nd_reckon_218 B w c N D bb v2 v4 q2 q4 m hm (jk [(1, v1), (6, j 6), (7, u0)])
                                      · skip
                                        refine P_lkd 368 rfl rfl q1 (by simp [Op.lookupswitch.offset, h1, Ne.symm h1, h2, Ne.symm h2, h3, Ne.symm h3, h4, Ne.symm h4, h5, Ne.symm h5, h7, Ne.symm h7, h9, Ne.symm h9, h10, Ne.symm h10, h11, Ne.symm h11, h12, Ne.symm h12, h13, Ne.symm h13, h14, Ne.symm h14, h16, Ne.symm h16, h17, Ne.symm h17, h19, Ne.symm h19, h21, Ne.symm h21, h23, Ne.symm h23, h25, Ne.symm h25, h27, Ne.symm h27]) ?_
                                        refine P_ld 369 (.long (i64 0)) rfl (fun _ => rfl) ?_
                                        exact P_rp2 rfl rfl (l64 0 rfl)
def kfl_nd_reckon_20 (v1 : Int) (v2 : Int) (v4 : Int) (m : mR) : Option Int :=
  kfl_nd_reckon_21 v1 v2 v4 0 m
theorem dg_nd_reckon_20 (B : oB) (w : wX) (c : Nat → Option am_C) (N D : Nat) (bb : Nat) (v1 : Int) (v2 : Int) (v4 : Int) (q1 : R32 v1) (q2 : R64 v2) (q4 : R64 v4) (m : mR) (hm : KCo B m) (j : Nat → Int) : PP bb w D pm_184 (20, [(0, .ref 22), (1, .int (i32 v1)), (2, .long (i64 v2)), (4, .long (i64 v4)), (6, .int (i32 (j 6)))], [], (khp m c, N), 0, 0) (QS (FP2 (khp m c, N)) (kfl_nd_reckon_20 v1 v2 v4 m)) := by
  unfold kfl_nd_reckon_20
  show PP bb w D pm_184 (20, [(0, .ref 22), (1, .int (i32 v1)), (2, .long (i64 v2)), (4, .long (i64 v4)), (6, .int (i32 (j 6)))], [], (khp (mO m [] []) c, N), 0, 0) _
  refine P_ld 21 (.int (i32 0)) rfl (fun _ => rfl) ?_
  exact dg_nd_reckon_21 B w c N D bb v1 v2 v4 0 q1 q2 q4 (l32 0 rfl) m hm (jk [(6, j 6)])
def kf_nd_reckon (v1 : Int) (v2 : Int) (v4 : Int) (v6 : Int) (m : mR) : Option Int :=
  if cmp64 v4 0 < 0 then
    kfl_nd_reckon_20 v1 v2 v4 m
  else
    if (0 : Int) ≤ cmp64 v4 v6 then
      kfl_nd_reckon_20 v1 v2 v4 m
    else
      kfl_nd_reckon_21 v1 v2 v4 1 m
theorem D_nd_reckon (B : oB) (w : wX) (m : mR) (c : Nat → Option am_C) (N D : Nat) (hm : KCo B m) (v1 : Int) (v2 : Int) (v4 : Int) (v6 : Int) (q1 : R32 v1) (q2 : R64 v2) (q4 : R64 v4) (q6 : R32 v6) : PC w D 184 [.ref 22, .int (i32 v1), .long (i64 v2), .long (i64 v4), .int (i32 v6)] (khp m c, N) (QS (FP2 (khp m c, N)) (kf_nd_reckon v1 v2 v4 v6 m)) := by
  refine Pc_of (fun D bb => ?_) D
  unfold kf_nd_reckon
  show PP bb w D pm_184 (0, [(0, .ref 22), (1, .int (i32 v1)), (2, .long (i64 v2)), (4, .long (i64 v4)), (6, .int (i32 v6))], [], (khp (mO m [] []) c, N), 0, 0) _
  refine P_ld 2 (.long (i64 v4)) rfl (fun _ => rfl) ?_
  refine P_ld 3 (.long (i64 0)) rfl (fun _ => rfl) ?_
  refine P_op 4 (cmp64 v4 0) _ rfl (fun _ => rfl) (o_cmp q4 (l64 0 rfl)) ?_
  refine P_ifF 20 7 rfl rfl rfl cmp64_r rfl (fun h28 => ?_) (fun h28 => ?_)
  · skip
    exact dg_nd_reckon_20 B w c N D bb v1 v2 v4 q1 q2 q4 m hm (jk [(6, v6)])
  · skip
    refine P_ld 9 (.long (i64 v4)) rfl (fun _ => rfl) ?_
    refine P_ld 11 (.int (i32 v6)) rfl (fun _ => rfl) ?_
    refine P_opl 12 v6 _ rfl (fun _ => rfl) (o_i2l q6) ?_
    refine P_op 13 (cmp64 v4 v6) _ rfl (fun _ => rfl) (o_cmp q4 (R32_64 q6)) ?_
    refine P_ifF 20 16 rfl rfl rfl cmp64_r rfl (fun h29 => ?_) (fun h29 => ?_)
    · skip
      exact dg_nd_reckon_20 B w c N D bb v1 v2 v4 q1 q2 q4 m hm (jk [(6, v6)])
    · skip
      refine P_ld 17 (.int (i32 1)) rfl (fun _ => rfl) ?_
      refine P_goto 21 rfl (fun _ => rfl) ?_
      exact dg_nd_reckon_21 B w c N D bb v1 v2 v4 1 q1 q2 q4 (l32 1 rfl) m hm (jk [(6, v6)])
end X55DA
