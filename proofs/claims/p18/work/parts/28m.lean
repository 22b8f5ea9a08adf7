noncomputable section X28M
def kfl_rd_keyLine_217 (v1 : Int) (v2 : Int) (v4 : Int) (m : mR) : Option (Int × Int × mR) :=
  bnd (kf_tx_expect 59 (mO m [] [(72, upI (m.2 72) v1 (cut (v2 + 1))), (81, upI (m.2 81) (65536 * v1 + v2) v4)])) fun y1 =>
  if y1.1 = 0 then
    some (0, 0, y1.2.2)
  else
    some (y1.1, 0, y1.2.2)
theorem dg_rd_keyLine_217 (w : wX) (c : Nat → Option am_C) (N D : Nat) (bb : Nat) (v1 : Int) (v2 : Int) (v4 : Int) (q1 : Rt v1) (q2 : R32 v2) (q4 : R32 v4) (m : mR) (hm : KCn m) (j : Nat → Int) : PP bb w D pm_129 (217, [(0, .ref 178), (1, .ref (tbr v1)), (2, .int (i32 v2)), (3, .int (i32 (j 3))), (4, .int (i32 v4)), (5, .int (i32 (j 5))), (6, .int (i32 (j 6)))], [], (khp m c, N), 0, 0) (QS (FX0 c N) (kfl_rd_keyLine_217 v1 v2 v4 m)) := by
  unfold kfl_rd_keyLine_217
  show PP bb w D pm_129 (217, [(0, .ref 178), (1, .ref (tbr v1)), (2, .int (i32 v2)), (3, .int (i32 (j 3))), (4, .int (i32 v4)), (5, .int (i32 (j 5))), (6, .int (i32 (j 6)))], [], (khp (mO m [] []) c, N), 0, 0) _
  refine P_ld 218 (.ref (tbr v1)) rfl (fun _ => rfl) ?_
  refine PK_gfr 221 rfl rfl q1.1 q1.2 rfl ?_
  refine P_ld 222 (.int (i32 v2)) rfl (fun _ => rfl) ?_
  refine P_ld 224 (.int (i32 v4)) rfl (fun _ => rfl) ?_
  refine PK_iastt2 (a' := [(81, upI (m.2 81) (65536 * v1 + v2) v4)]) 225 2 (m.2 81) rfl rfl rfl q1 q2 rfl rfl ?_
  refine P_ld 226 (.ref (tbr v1)) rfl (fun _ => rfl) ?_
  refine P_ld 227 (.int (i32 v2)) rfl (fun _ => rfl) ?_
  refine P_ld 228 (.int (i32 1)) rfl (fun _ => rfl) ?_
  refine P_op 229 (cut (v2 + 1)) _ rfl (fun _ => rfl) o_add ?_
  refine PK_pfi (a' := [(72, upI (m.2 72) v1 (cut (v2 + 1))), (81, upI (m.2 81) (65536 * v1 + v2) v4)]) 232 72 (m.2 72) rfl rfl rfl q1.1 q1.2 rfl rfl rfl ?_
  refine P_ld 233 (.ref 178) rfl (fun _ => rfl) ?_
  refine PK_gf 236 (.ref 6) rfl rfl kd_178 rfl rfl rfl ?_
  refine P_ld 238 (.int (i32 59)) rfl (fun _ => rfl) ?_
  refine P_cx0 241 78 [.ref 6, .int (i32 59)] [] rfl (fun _ => rfl) rfl rfl (D_tx_expect w (mO m [] [(72, upI (m.2 72) v1 (cut (v2 + 1))), (81, upI (m.2 81) (65536 * v1 + v2) v4)]) c N D (KCn_mO hm rfl rfl trivial ⟨(kE_ui (KCn_a hm 72) rfl cut_r), (kE_ui (KCn_a hm 81) rfl q4), trivial⟩) 59 (l32 59 rfl)) (fun y x hm e => ⟨_, rfl, hm, Or.inr ⟨x, e, rfl⟩⟩) (fun y1 n3 => ?_)
  exact P_rx0 rfl rfl n3
def kfl_rd_keyLine_199 (v1 : Int) (v2 : Int) (v4 : Int) (v5 : Int) (u0 : Int) (m : mR) : Option (Int × Int × mR) :=
  if u0 = 0 then
    kfl_rd_keyLine_217 v1 v2 v4 m
  else
    bnd (kf_tx_fail 8 v5 m) fun y5 =>
    if y5.1 = 0 then
      kfl_rd_keyLine_217 v1 v2 v4 y5.2.2
    else
      some (y5.1, 0, y5.2.2)
theorem dg_rd_keyLine_199 (w : wX) (c : Nat → Option am_C) (N D : Nat) (bb : Nat) (v1 : Int) (v2 : Int) (v4 : Int) (v5 : Int) (u0 : Int) (q1 : Rt v1) (q2 : R32 v2) (q4 : R32 v4) (q5 : R32 v5) (r0 : R32 u0) (m : mR) (hm : KCn m) (j : Nat → Int) : PP bb w D pm_129 (199, [(0, .ref 178), (1, .ref (tbr v1)), (2, .int (i32 v2)), (3, .int (i32 (j 3))), (4, .int (i32 v4)), (5, .int (i32 v5))], [.int (i32 u0)], (khp m c, N), 0, 0) (QS (FX0 c N) (kfl_rd_keyLine_199 v1 v2 v4 v5 u0 m)) := by
  unfold kfl_rd_keyLine_199
  show PP bb w D pm_129 (199, [(0, .ref 178), (1, .ref (tbr v1)), (2, .int (i32 v2)), (3, .int (i32 (j 3))), (4, .int (i32 v4)), (5, .int (i32 v5))], [.int (i32 u0)], (khp (mO m [] []) c, N), 0, 0) _
  refine P_sto 201 [(6, .int (i32 u0)), (0, .ref 178), (1, .ref (tbr v1)), (2, .int (i32 v2)), (3, .int (i32 (j 3))), (4, .int (i32 v4)), (5, .int (i32 v5))] rfl (fun _ => rfl) ?_
  refine P_ld 203 (.int (i32 u0)) rfl (fun _ => rfl) ?_
  refine P_ifF 217 206 rfl rfl rfl r0 rfl (fun h4 => ?_) (fun h4 => ?_)
  · skip
    refine P_lv (b := [(0, .ref 178), (1, .ref (tbr v1)), (2, .int (i32 v2)), (3, .int (i32 (j 3))), (4, .int (i32 v4)), (5, .int (i32 v5)), (6, .int (i32 u0))]) rfl rfl ⟨rfl, rfl, rfl, rfl, rfl, rfl, rfl, trivial⟩ ?_
    exact dg_rd_keyLine_217 w c N D bb v1 v2 v4 q1 q2 q4 m hm (jk [(3, j 3), (5, v5), (6, u0)])
  · skip
    refine P_ld 207 (.ref 178) rfl (fun _ => rfl) ?_
    refine PK_gf 210 (.ref 6) rfl rfl kd_178 rfl rfl rfl ?_
    refine P_ld 212 (.int (i32 8)) rfl (fun _ => rfl) ?_
    refine P_ld 214 (.int (i32 v5)) rfl (fun _ => rfl) ?_
    refine P_cx0 217 51 [.ref 6, .int (i32 8), .int (i32 v5)] [] rfl (fun _ => rfl) rfl rfl (D_tx_fail w m c N D hm 8 v5 (l32 8 rfl) q5) (fun y x hm e => ⟨_, rfl, hm, Or.inr ⟨x, e, rfl⟩⟩) (fun y5 n7 => ?_)
    refine P_lv (b := [(0, .ref 178), (1, .ref (tbr v1)), (2, .int (i32 v2)), (3, .int (i32 (j 3))), (4, .int (i32 v4)), (5, .int (i32 v5)), (6, .int (i32 u0))]) rfl rfl ⟨rfl, rfl, rfl, rfl, rfl, rfl, rfl, trivial⟩ ?_
    exact dg_rd_keyLine_217 w c N D bb v1 v2 v4 q1 q2 q4 y5.2.2 n7 (jk [(3, j 3), (5, v5), (6, u0)])
def kfl_rd_keyLine_198 (v1 : Int) (v2 : Int) (v4 : Int) (v5 : Int) (m : mR) : Option (Int × Int × mR) :=
  kfl_rd_keyLine_199 v1 v2 v4 v5 0 m
theorem dg_rd_keyLine_198 (w : wX) (c : Nat → Option am_C) (N D : Nat) (bb : Nat) (v1 : Int) (v2 : Int) (v4 : Int) (v5 : Int) (q1 : Rt v1) (q2 : R32 v2) (q4 : R32 v4) (q5 : R32 v5) (m : mR) (hm : KCn m) (j : Nat → Int) : PP bb w D pm_129 (198, [(0, .ref 178), (1, .ref (tbr v1)), (2, .int (i32 v2)), (3, .int (i32 (j 3))), (4, .int (i32 v4)), (5, .int (i32 v5))], [], (khp m c, N), 0, 0) (QS (FX0 c N) (kfl_rd_keyLine_198 v1 v2 v4 v5 m)) := by
  unfold kfl_rd_keyLine_198
  show PP bb w D pm_129 (198, [(0, .ref 178), (1, .ref (tbr v1)), (2, .int (i32 v2)), (3, .int (i32 (j 3))), (4, .int (i32 v4)), (5, .int (i32 v5))], [], (khp (mO m [] []) c, N), 0, 0) _
  refine P_ld 199 (.int (i32 0)) rfl (fun _ => rfl) ?_
  exact dg_rd_keyLine_199 w c N D bb v1 v2 v4 v5 0 q1 q2 q4 q5 (l32 0 rfl) m hm (jk [(3, j 3)])
def kfl_rd_keyLine_194 (v1 : Int) (v2 : Int) (v4 : Int) (v5 : Int) (m : mR) : Option (Int × Int × mR) :=
  kfl_rd_keyLine_199 v1 v2 v4 v5 1 m
theorem dg_rd_keyLine_194 (w : wX) (c : Nat → Option am_C) (N D : Nat) (bb : Nat) (v1 : Int) (v2 : Int) (v4 : Int) (v5 : Int) (q1 : Rt v1) (q2 : R32 v2) (q4 : R32 v4) (q5 : R32 v5) (m : mR) (hm : KCn m) (j : Nat → Int) : PP bb w D pm_129 (194, [(0, .ref 178), (1, .ref (tbr v1)), (2, .int (i32 v2)), (3, .int (i32 (j 3))), (4, .int (i32 v4)), (5, .int (i32 v5))], [], (khp m c, N), 0, 0) (QS (FX0 c N) (kfl_rd_keyLine_194 v1 v2 v4 v5 m)) := by
  unfold kfl_rd_keyLine_194
  show PP bb w D pm_129 (194, [(0, .ref 178), (1, .ref (tbr v1)), (2, .int (i32 v2)), (3, .int (i32 (j 3))), (4, .int (i32 v4)), (5, .int (i32 v5))], [], (khp (mO m [] []) c, N), 0, 0) _
  refine P_ld 195 (.int (i32 1)) rfl (fun _ => rfl) ?_
  refine P_goto 199 rfl (fun _ => rfl) ?_
  exact dg_rd_keyLine_199 w c N D bb v1 v2 v4 v5 1 q1 q2 q4 q5 (l32 1 rfl) m hm (jk [(3, j 3)])
def kfl_rd_keyLine_176 (v1 : Int) (v2 : Int) (v4 : Int) (v5 : Int) (m : mR) : Option (Int × Int × mR) :=
  if v4 = 313 then
    bnd (kf_tb_hasKey v1 314 m) fun y9 =>
    if y9 = 0 then
      kfl_rd_keyLine_198 v1 v2 v4 v5 m
    else
      kfl_rd_keyLine_194 v1 v2 v4 v5 m
  else
    kfl_rd_keyLine_198 v1 v2 v4 v5 m
theorem dg_rd_keyLine_176 (w : wX) (c : Nat → Option am_C) (N D : Nat) (bb : Nat) (v1 : Int) (v2 : Int) (v4 : Int) (v5 : Int) (q1 : Rt v1) (q2 : R32 v2) (q4 : R32 v4) (q5 : R32 v5) (m : mR) (hm : KCn m) (j : Nat → Int) : PP bb w D pm_129 (176, [(0, .ref 178), (1, .ref (tbr v1)), (2, .int (i32 v2)), (3, .int (i32 (j 3))), (4, .int (i32 v4)), (5, .int (i32 v5))], [], (khp m c, N), 0, 0) (QS (FX0 c N) (kfl_rd_keyLine_176 v1 v2 v4 v5 m)) := by
  unfold kfl_rd_keyLine_176
  show PP bb w D pm_129 (176, [(0, .ref 178), (1, .ref (tbr v1)), (2, .int (i32 v2)), (3, .int (i32 (j 3))), (4, .int (i32 v4)), (5, .int (i32 v5))], [], (khp (mO m [] []) c, N), 0, 0) _
  refine P_ld 178 (.int (i32 v4)) rfl (fun _ => rfl) ?_
  refine P_ld 181 (.int (i32 313)) rfl (fun _ => rfl) ?_
  refine P_icE 198 184 rfl rfl rfl q4 (l32 313 rfl) rfl (fun h8 => ?_) (fun h8 => ?_)
  · skip
    refine P_ld 185 (.ref (tbr v1)) rfl (fun _ => rfl) ?_
    refine P_ld 188 (.int (i32 314)) rfl (fun _ => rfl) ?_
    refine P_cp1 191 130 [.ref (tbr v1), .int (i32 314)] [] rfl (inv_vt (args := [.int (i32 314)]) (khp_t0 _ q1.1 q1.2) rfl rfl rfl) rfl (D_tb_hasKey w m c N D hm v1 314 q1 (l32 314 rfl)) (fun y9 h10 => ?_)
    refine P_ifF 198 194 rfl rfl rfl h10 rfl (fun h12 => ?_) (fun h12 => ?_)
    · skip
      exact dg_rd_keyLine_198 w c N D bb v1 v2 v4 v5 q1 q2 q4 q5 m hm (jk [(3, j 3)])
    · skip
      exact dg_rd_keyLine_194 w c N D bb v1 v2 v4 v5 q1 q2 q4 q5 m hm (jk [(3, j 3)])
  · skip
    exact dg_rd_keyLine_198 w c N D bb v1 v2 v4 v5 q1 q2 q4 q5 m hm (jk [(3, j 3)])
def kfl_rd_keyLine_151 (v1 : Int) (v2 : Int) (v4 : Int) (v5 : Int) (m : mR) : Option (Int × Int × mR) :=
  bnd (kf_tx_advance m) fun y13 =>
  if y13.1 = 0 then
    if v4 = 312 then
      kfl_rd_keyLine_176 v1 v2 v4 v5 y13.2.2
    else
      bnd (kf_tb_hasKey v1 313 y13.2.2) fun y17 =>
      if y17 = 0 then
        kfl_rd_keyLine_176 v1 v2 v4 v5 y13.2.2
      else
        kfl_rd_keyLine_194 v1 v2 v4 v5 y13.2.2
  else
    some (y13.1, 0, y13.2.2)
theorem dg_rd_keyLine_151 (w : wX) (c : Nat → Option am_C) (N D : Nat) (bb : Nat) (v1 : Int) (v2 : Int) (v4 : Int) (v5 : Int) (q1 : Rt v1) (q2 : R32 v2) (q4 : R32 v4) (q5 : R32 v5) (m : mR) (hm : KCn m) (j : Nat → Int) : PP bb w D pm_129 (151, [(0, .ref 178), (1, .ref (tbr v1)), (2, .int (i32 v2)), (3, .int (i32 (j 3))), (4, .int (i32 v4)), (5, .int (i32 v5))], [], (khp m c, N), 0, 0) (QS (FX0 c N) (kfl_rd_keyLine_151 v1 v2 v4 v5 m)) := by
  unfold kfl_rd_keyLine_151
  show PP bb w D pm_129 (151, [(0, .ref 178), (1, .ref (tbr v1)), (2, .int (i32 v2)), (3, .int (i32 (j 3))), (4, .int (i32 v4)), (5, .int (i32 v5))], [], (khp (mO m [] []) c, N), 0, 0) _
  refine P_ld 152 (.ref 178) rfl (fun _ => rfl) ?_
  refine PK_gf 155 (.ref 6) rfl rfl kd_178 rfl rfl rfl ?_
  refine P_cx0 158 50 [.ref 6] [] rfl (fun _ => rfl) rfl rfl (D_tx_advance w m c N D hm) (fun y x hm e => ⟨_, rfl, hm, Or.inr ⟨x, e, rfl⟩⟩) (fun y13 n15 => ?_)
  refine P_ld 160 (.int (i32 v4)) rfl (fun _ => rfl) ?_
  refine P_ld 163 (.int (i32 312)) rfl (fun _ => rfl) ?_
  refine P_icF 176 166 rfl rfl rfl q4 (l32 312 rfl) rfl (fun h16 => ?_) (fun h16 => ?_)
  · skip
    exact dg_rd_keyLine_176 w c N D bb v1 v2 v4 v5 q1 q2 q4 q5 y13.2.2 n15 (jk [(3, j 3)])
  · skip
    refine P_ld 167 (.ref (tbr v1)) rfl (fun _ => rfl) ?_
    refine P_ld 170 (.int (i32 313)) rfl (fun _ => rfl) ?_
    refine P_cp1 173 130 [.ref (tbr v1), .int (i32 313)] [] rfl (inv_vt (args := [.int (i32 313)]) (khp_t0 _ q1.1 q1.2) rfl rfl rfl) rfl (D_tb_hasKey w y13.2.2 c N D n15 v1 313 q1 (l32 313 rfl)) (fun y17 h18 => ?_)
    refine P_ifE 194 176 rfl rfl rfl h18 rfl (fun h20 => ?_) (fun h20 => ?_)
    · skip
      exact dg_rd_keyLine_176 w c N D bb v1 v2 v4 v5 q1 q2 q4 q5 y13.2.2 n15 (jk [(3, j 3)])
    · skip
      exact dg_rd_keyLine_194 w c N D bb v1 v2 v4 v5 q1 q2 q4 q5 y13.2.2 n15 (jk [(3, j 3)])
def kfl_rd_keyLine_33 (v1 : Int) (v2 : Int) (m : mR) : Option (Int × Int × mR) :=
  bnd (kf_tx_expect 311 m) fun y21 =>
  if y21.1 = 0 then
    bnd (kf_fm_whole (-1) (mO y21.2.2 [] [(79, upI (y21.2.2.2 79) (65536 * v1 + v2) (y21.2.2.1 220))])) fun y24 =>
    if y24.1 = 0 then
      bnd (kf_tx_expect 58 (mO y24.2.2 [] [(80, upI (y24.2.2.2 80) (65536 * v1 + v2) y24.2.1), (82, upI (y24.2.2.2 82) (65536 * v1 + v2) ((y24.2.2.2 22) y24.2.1))])) fun y27 =>
      if y27.1 = 0 then
        if y27.2.2.1 206 = 312 then
          kfl_rd_keyLine_151 v1 v2 (y27.2.2.1 206) (y27.2.2.1 207) y27.2.2
        else
          if y27.2.2.1 206 = 313 then
            kfl_rd_keyLine_151 v1 v2 (y27.2.2.1 206) (y27.2.2.1 207) y27.2.2
          else
            if y27.2.2.1 206 = 314 then
              kfl_rd_keyLine_151 v1 v2 (y27.2.2.1 206) (y27.2.2.1 207) y27.2.2
            else
              bnd (kf_tx_refuse y27.2.2) fun y33 =>
              if y33.1 = 0 then
                kfl_rd_keyLine_151 v1 v2 (y27.2.2.1 206) (y27.2.2.1 207) y33.2.2
              else
                some (y33.1, 0, y33.2.2)
      else
        some (y27.1, 0, y27.2.2)
    else
      some (y24.1, 0, y24.2.2)
  else
    some (y21.1, 0, y21.2.2)
theorem dg_rd_keyLine_33 (w : wX) (c : Nat → Option am_C) (N D : Nat) (bb : Nat) (v1 : Int) (v2 : Int) (q1 : Rt v1) (q2 : R32 v2) (m : mR) (hm : KCn m) (j : Nat → Int) : PP bb w D pm_129 (33, [(0, .ref 178), (1, .ref (tbr v1)), (2, .int (i32 v2))], [], (khp m c, N), 0, 0) (QS (FX0 c N) (kfl_rd_keyLine_33 v1 v2 m)) := by
  unfold kfl_rd_keyLine_33
  show PP bb w D pm_129 (33, [(0, .ref 178), (1, .ref (tbr v1)), (2, .int (i32 v2))], [], (khp (mO m [] []) c, N), 0, 0) _
  refine P_ld 34 (.ref 178) rfl (fun _ => rfl) ?_
  refine PK_gf 37 (.ref 6) rfl rfl kd_178 rfl rfl rfl ?_
  refine P_ld 40 (.int (i32 311)) rfl (fun _ => rfl) ?_
  refine P_cx0 43 78 [.ref 6, .int (i32 311)] [] rfl (fun _ => rfl) rfl rfl (D_tx_expect w m c N D hm 311 (l32 311 rfl)) (fun y x hm e => ⟨_, rfl, hm, Or.inr ⟨x, e, rfl⟩⟩) (fun y21 n23 => ?_)
  refine P_ld 44 (.ref (tbr v1)) rfl (fun _ => rfl) ?_
  refine PK_gfr 47 rfl rfl q1.1 q1.2 rfl ?_
  refine P_ld 48 (.int (i32 v2)) rfl (fun _ => rfl) ?_
  refine P_ld 49 (.ref 178) rfl (fun _ => rfl) ?_
  refine PK_gf 52 (.ref 12) rfl rfl kd_178 rfl rfl rfl ?_
  refine PK_gf 55 (.ref 22) rfl rfl kd_12 rfl rfl rfl ?_
  refine PK_gf 58 (.int (i32 (y21.2.2.1 220))) rfl rfl kd_22 rfl rfl rfl ?_
  refine PK_iastt2 (a' := [(79, upI (y21.2.2.2 79) (65536 * v1 + v2) (y21.2.2.1 220))]) 59 0 (y21.2.2.2 79) rfl rfl rfl q1 q2 rfl rfl ?_
  refine P_ld 60 (.ref 178) rfl (fun _ => rfl) ?_
  refine PK_gf 63 (.ref 181) rfl rfl kd_178 rfl rfl rfl ?_
  refine P_ld 64 (.int (i32 (-1))) rfl (fun _ => rfl) ?_
  refine P_cx1 67 92 [.ref 181, .int (i32 (-1))] [] rfl (fun _ => rfl) rfl rfl (D_fm_whole w (mO y21.2.2 [] [(79, upI (y21.2.2.2 79) (65536 * v1 + v2) (y21.2.2.1 220))]) c N D (KCn_mO n23 rfl rfl trivial ⟨(kE_ui (KCn_a n23 79) rfl (KCn_i n23 220 rfl)), trivial⟩) (-1) (l32 (-1) rfl)) (fun y x hm e => ⟨_, rfl, hm, Or.inr ⟨x, e, rfl⟩⟩) (fun y24 h25 n26 => ?_)
  refine P_sto 68 [(3, .int (i32 y24.2.1)), (0, .ref 178), (1, .ref (tbr v1)), (2, .int (i32 v2))] rfl (fun _ => rfl) ?_
  refine P_ld 69 (.ref (tbr v1)) rfl (fun _ => rfl) ?_
  refine PK_gfr 72 rfl rfl q1.1 q1.2 rfl ?_
  refine P_ld 73 (.int (i32 v2)) rfl (fun _ => rfl) ?_
  refine P_ld 74 (.int (i32 y24.2.1)) rfl (fun _ => rfl) ?_
  refine PK_iastt2 (a' := [(80, upI (y24.2.2.2 80) (65536 * v1 + v2) y24.2.1)]) 75 1 (y24.2.2.2 80) rfl rfl rfl q1 q2 rfl rfl ?_
  refine P_ld 76 (.ref (tbr v1)) rfl (fun _ => rfl) ?_
  refine PK_gfr 79 rfl rfl q1.1 q1.2 rfl ?_
  refine P_ld 80 (.int (i32 v2)) rfl (fun _ => rfl) ?_
  refine P_ld 81 (.ref 178) rfl (fun _ => rfl) ?_
  refine PK_gf 84 (.ref 12) rfl rfl kd_178 rfl rfl rfl ?_
  refine PK_gf 87 (.ref 22) rfl rfl kd_12 rfl rfl rfl ?_
  refine PK_gf 90 (.ref 27) rfl rfl kd_22 rfl rfl rfl ?_
  refine P_ld 91 (.int (i32 y24.2.1)) rfl (fun _ => rfl) ?_
  refine PK_iald2 92 22 (y24.2.2.2 22) rfl rfl rfl h25 rfl ?_
  refine PK_iastt2 (a' := [(80, upI (y24.2.2.2 80) (65536 * v1 + v2) y24.2.1), (82, upI (y24.2.2.2 82) (65536 * v1 + v2) ((y24.2.2.2 22) y24.2.1))]) 93 3 (y24.2.2.2 82) rfl rfl rfl q1 q2 rfl rfl ?_
  refine P_ld 94 (.ref 178) rfl (fun _ => rfl) ?_
  refine PK_gf 97 (.ref 6) rfl rfl kd_178 rfl rfl rfl ?_
  refine P_ld 99 (.int (i32 58)) rfl (fun _ => rfl) ?_
  refine P_cx0 102 78 [.ref 6, .int (i32 58)] [] rfl (fun _ => rfl) rfl rfl (D_tx_expect w (mO y24.2.2 [] [(80, upI (y24.2.2.2 80) (65536 * v1 + v2) y24.2.1), (82, upI (y24.2.2.2 82) (65536 * v1 + v2) ((y24.2.2.2 22) y24.2.1))]) c N D (KCn_mO n26 rfl rfl trivial ⟨(kE_ui (KCn_a n26 80) rfl h25), (kE_ui (KCn_a n26 82) rfl (kE_i (KCn_a n26 22) rfl _)), trivial⟩) 58 (l32 58 rfl)) (fun y x hm e => ⟨_, rfl, hm, Or.inr ⟨x, e, rfl⟩⟩) (fun y27 n29 => ?_)
  refine P_ld 103 (.ref 178) rfl (fun _ => rfl) ?_
  refine PK_gf 106 (.ref 6) rfl rfl kd_178 rfl rfl rfl ?_
  refine PK_gf 109 (.int (i32 (y27.2.2.1 206))) rfl rfl kd_6 rfl rfl rfl ?_
  refine P_sto 111 [(4, .int (i32 (y27.2.2.1 206))), (3, .int (i32 y24.2.1)), (0, .ref 178), (1, .ref (tbr v1)), (2, .int (i32 v2))] rfl (fun _ => rfl) ?_
  refine P_ld 112 (.ref 178) rfl (fun _ => rfl) ?_
  refine PK_gf 115 (.ref 6) rfl rfl kd_178 rfl rfl rfl ?_
  refine PK_gf 118 (.int (i32 (y27.2.2.1 207))) rfl rfl kd_6 rfl rfl rfl ?_
  refine P_sto 120 [(5, .int (i32 (y27.2.2.1 207))), (4, .int (i32 (y27.2.2.1 206))), (3, .int (i32 y24.2.1)), (0, .ref 178), (1, .ref (tbr v1)), (2, .int (i32 v2))] rfl (fun _ => rfl) ?_
  refine P_ld 122 (.int (i32 (y27.2.2.1 206))) rfl (fun _ => rfl) ?_
  refine P_ld 125 (.int (i32 312)) rfl (fun _ => rfl) ?_
  refine P_icF 151 128 rfl rfl rfl (KCn_i n29 206 rfl) (l32 312 rfl) rfl (fun h30 => ?_) (fun h30 => ?_)
  · skip
    refine P_lv (b := [(0, .ref 178), (1, .ref (tbr v1)), (2, .int (i32 v2)), (3, .int (i32 y24.2.1)), (4, .int (i32 (y27.2.2.1 206))), (5, .int (i32 (y27.2.2.1 207)))]) rfl rfl ⟨rfl, rfl, rfl, rfl, rfl, rfl, trivial⟩ ?_
    exact dg_rd_keyLine_151 w c N D bb v1 v2 (y27.2.2.1 206) (y27.2.2.1 207) q1 q2 (KCn_i n29 206 rfl) (KCn_i n29 207 rfl) y27.2.2 n29 (jk [(3, y24.2.1)])
  · skip
    refine P_ld 130 (.int (i32 (y27.2.2.1 206))) rfl (fun _ => rfl) ?_
    refine P_ld 133 (.int (i32 313)) rfl (fun _ => rfl) ?_
    refine P_icF 151 136 rfl rfl rfl (KCn_i n29 206 rfl) (l32 313 rfl) rfl (fun h31 => ?_) (fun h31 => ?_)
    · skip
      refine P_lv (b := [(0, .ref 178), (1, .ref (tbr v1)), (2, .int (i32 v2)), (3, .int (i32 y24.2.1)), (4, .int (i32 (y27.2.2.1 206))), (5, .int (i32 (y27.2.2.1 207)))]) rfl rfl ⟨rfl, rfl, rfl, rfl, rfl, rfl, trivial⟩ ?_
      exact dg_rd_keyLine_151 w c N D bb v1 v2 (y27.2.2.1 206) (y27.2.2.1 207) q1 q2 (KCn_i n29 206 rfl) (KCn_i n29 207 rfl) y27.2.2 n29 (jk [(3, y24.2.1)])
    · skip
      refine P_ld 138 (.int (i32 (y27.2.2.1 206))) rfl (fun _ => rfl) ?_
      refine P_ld 141 (.int (i32 314)) rfl (fun _ => rfl) ?_
      refine P_icF 151 144 rfl rfl rfl (KCn_i n29 206 rfl) (l32 314 rfl) rfl (fun h32 => ?_) (fun h32 => ?_)
      · skip
        refine P_lv (b := [(0, .ref 178), (1, .ref (tbr v1)), (2, .int (i32 v2)), (3, .int (i32 y24.2.1)), (4, .int (i32 (y27.2.2.1 206))), (5, .int (i32 (y27.2.2.1 207)))]) rfl rfl ⟨rfl, rfl, rfl, rfl, rfl, rfl, trivial⟩ ?_
        exact dg_rd_keyLine_151 w c N D bb v1 v2 (y27.2.2.1 206) (y27.2.2.1 207) q1 q2 (KCn_i n29 206 rfl) (KCn_i n29 207 rfl) y27.2.2 n29 (jk [(3, y24.2.1)])
      · skip
        refine P_ld 145 (.ref 178) rfl (fun _ => rfl) ?_
        refine PK_gf 148 (.ref 6) rfl rfl kd_178 rfl rfl rfl ?_
        refine P_cx0 151 76 [.ref 6] [] rfl (fun _ => rfl) rfl rfl (D_tx_refuse w y27.2.2 c N D n29) (fun y x hm e => ⟨_, rfl, hm, Or.inr ⟨x, e, rfl⟩⟩) (fun y33 n35 => ?_)
        refine P_lv (b := [(0, .ref 178), (1, .ref (tbr v1)), (2, .int (i32 v2)), (3, .int (i32 y24.2.1)), (4, .int (i32 (y27.2.2.1 206))), (5, .int (i32 (y27.2.2.1 207)))]) rfl rfl ⟨rfl, rfl, rfl, rfl, rfl, rfl, trivial⟩ ?_
        exact dg_rd_keyLine_151 w c N D bb v1 v2 (y27.2.2.1 206) (y27.2.2.1 207) q1 q2 (KCn_i n29 206 rfl) (KCn_i n29 207 rfl) y33.2.2 n35 (jk [(3, y24.2.1)])
def kf_rd_keyLine (v1 : Int) (v2 : Int) (m : mR) : Option (Int × Int × mR) :=
  if m.1 206 = 311 then
    if v2 < 4 then
      kfl_rd_keyLine_33 v1 v2 m
    else
      bnd (kf_tx_fail 4 (m.1 207) m) fun y38 =>
      if y38.1 = 0 then
        kfl_rd_keyLine_33 v1 v2 y38.2.2
      else
        some (y38.1, 0, y38.2.2)
  else
    kfl_rd_keyLine_33 v1 v2 m
theorem D_rd_keyLine (w : wX) (m : mR) (c : Nat → Option am_C) (N D : Nat) (hm : KCn m) (v1 : Int) (v2 : Int) (q1 : Rt v1) (q2 : R32 v2) : PC w D 129 [.ref 178, .ref (tbr v1), .int (i32 v2)] (khp m c, N) (QS (FX0 c N) (kf_rd_keyLine v1 v2 m)) := by
  refine Pc_of (fun D bb => ?_) D
  unfold kf_rd_keyLine
  show PP bb w D pm_129 (0, [(0, .ref 178), (1, .ref (tbr v1)), (2, .int (i32 v2))], [], (khp (mO m [] []) c, N), 0, 0) _
  refine P_ld 1 (.ref 178) rfl (fun _ => rfl) ?_
  refine PK_gf 4 (.ref 6) rfl rfl kd_178 rfl rfl rfl ?_
  refine PK_gf 7 (.int (i32 (m.1 206))) rfl rfl kd_6 rfl rfl rfl ?_
  refine P_ld 10 (.int (i32 311)) rfl (fun _ => rfl) ?_
  refine P_icE 33 13 rfl rfl rfl (KCn_i hm 206 rfl) (l32 311 rfl) rfl (fun h36 => ?_) (fun h36 => ?_)
  · skip
    refine P_ld 14 (.int (i32 v2)) rfl (fun _ => rfl) ?_
    refine P_ld 15 (.int (i32 4)) rfl (fun _ => rfl) ?_
    refine P_icF 33 18 rfl rfl rfl q2 (l32 4 rfl) rfl (fun h37 => ?_) (fun h37 => ?_)
    · skip
      exact dg_rd_keyLine_33 w c N D bb v1 v2 q1 q2 m hm (jk [])
    · skip
      refine P_ld 19 (.ref 178) rfl (fun _ => rfl) ?_
      refine PK_gf 22 (.ref 6) rfl rfl kd_178 rfl rfl rfl ?_
      refine P_ld 23 (.int (i32 4)) rfl (fun _ => rfl) ?_
      refine P_ld 24 (.ref 178) rfl (fun _ => rfl) ?_
      refine PK_gf 27 (.ref 6) rfl rfl kd_178 rfl rfl rfl ?_
      refine PK_gf 30 (.int (i32 (m.1 207))) rfl rfl kd_6 rfl rfl rfl ?_
      refine P_cx0 33 51 [.ref 6, .int (i32 4), .int (i32 (m.1 207))] [] rfl (fun _ => rfl) rfl rfl (D_tx_fail w m c N D hm 4 (m.1 207) (l32 4 rfl) (KCn_i hm 207 rfl)) (fun y x hm e => ⟨_, rfl, hm, Or.inr ⟨x, e, rfl⟩⟩) (fun y38 n40 => ?_)
      exact dg_rd_keyLine_33 w c N D bb v1 v2 q1 q2 y38.2.2 n40 (jk [])
  · skip
    exact dg_rd_keyLine_33 w c N D bb v1 v2 q1 q2 m hm (jk [])
def cs_rd_table_66 (s : Int × mR) : Prop := R32 s.1 ∧ KCn s.2
def cx_rd_table_66 : (Sum (mR) (Int × mR)) → Prop := (sel (fun (e : mR) => KCn e) (fun (e : Int × mR) => False))
def hd_rd_table_66 (c : Nat → Option am_C) (N : Nat) (v2 : Int) (s : Int × mR) (j : Nat → Int) : ag_St af_T := (66, [(0, .ref 178), (1, .int (i32 (j 1))), (2, .ref (tbr v2)), (3, .int (i32 s.1))], [], (khp s.2 c, N), 0, 0)
def ex_rd_table_66 (c : Nat → Option am_C) (N : Nat) (v2 : Int) : (Sum (mR) (Int × mR)) → (Nat → Int) → ag_St af_T := (sel (fun (e : mR) (j : Nat → Int) => ((100, [(0, .ref 178), (1, .int (i32 (j 1))), (2, .ref (tbr v2)), (3, .int (i32 (j 3)))], [], (khp e c, N), 0, 0) : ag_St af_T)) (fun (e : Int × mR) (j : Nat → Int) => ((0, [], [], (khp e.2 c, N), 0, 0) : ag_St af_T)))
def tx_rd_table_66 (c : Nat → Option am_C) (N : Nat) : (Sum (mR) (Int × mR)) → ag_Re af_T → Prop := (sel (fun (_ : mR) (_ : ag_Re af_T) => False) (fun (e : Int × mR) (r : ag_Re af_T) => ∃ x : Nat, e.1 = x + 1 ∧ KCn e.2 ∧ r = (.inr x, (khp e.2 c, N), 1, 6)))
def cs_rd_table_115 (s : Int × Int × mR) : Prop := R32 s.1 ∧ R32 s.2.1 ∧ KCn s.2.2
def cx_rd_table_115 : (Sum (mR) (Int × mR)) → Prop := (sel (fun (e : mR) => KCn e) (fun (e : Int × mR) => False))
def hd_rd_table_115 (c : Nat → Option am_C) (N : Nat) (v2 : Int) (s : Int × Int × mR) (j : Nat → Int) : ag_St af_T := (115, [(0, .ref 178), (1, .int (i32 (j 1))), (2, .ref (tbr v2)), (3, .int (i32 s.1)), (4, .int (i32 s.2.1))], [], (khp s.2.2 c, N), 0, 0)
def ex_rd_table_115 (c : Nat → Option am_C) (N : Nat) (v2 : Int) : (Sum (mR) (Int × mR)) → (Nat → Int) → ag_St af_T := (sel (fun (e : mR) (j : Nat → Int) => ((144, [(0, .ref 178), (1, .int (i32 (j 1))), (2, .ref (tbr v2)), (3, .int (i32 (j 3))), (4, .int (i32 (j 4)))], [], (khp e c, N), 0, 0) : ag_St af_T)) (fun (e : Int × mR) (j : Nat → Int) => ((0, [], [], (khp e.2 c, N), 0, 0) : ag_St af_T)))
def tx_rd_table_115 (c : Nat → Option am_C) (N : Nat) : (Sum (mR) (Int × mR)) → ag_Re af_T → Prop := (sel (fun (_ : mR) (_ : ag_Re af_T) => False) (fun (e : Int × mR) (r : ag_Re af_T) => ∃ x : Nat, e.1 = x + 1 ∧ KCn e.2 ∧ r = (.inr x, (khp e.2 c, N), 1, 6)))
def kfl_rd_table_144 (v2 : Int) (m : mR) : Option (Int × Int × mR) :=
  bnd (kf_tx_expect 59 m) fun y3 =>
  if y3.1 = 0 then
    bnd (kf_tx_expect 308 y3.2.2) fun y6 =>
    if y6.1 = 0 then
      bnd (kf_rd_defaultLine v2 y6.2.2) fun y9 =>
      if y9.1 = 0 then
        bnd (kf_tx_expect 316 y9.2.2) fun y12 =>
        if y12.1 = 0 then
          bnd (kf_rd_roomLine v2 y12.2.2) fun y15 =>
          if y15.1 = 0 then
            bnd (kf_tx_expect 125 y15.2.2) fun y18 =>
            if y18.1 = 0 then
              some (0, 0, y18.2.2)
            else
              some (y18.1, 0, y18.2.2)
          else
            some (y15.1, 0, y15.2.2)
        else
          some (y12.1, 0, y12.2.2)
      else
        some (y9.1, 0, y9.2.2)
    else
      some (y6.1, 0, y6.2.2)
  else
    some (y3.1, 0, y3.2.2)
theorem dg_rd_table_144 (w : wX) (c : Nat → Option am_C) (N D : Nat) (bb : Nat) (v2 : Int) (q2 : Rt v2) (m : mR) (hm : KCn m) (j : Nat → Int) : PP bb w D pm_127 (144, [(0, .ref 178), (1, .int (i32 (j 1))), (2, .ref (tbr v2)), (3, .int (i32 (j 3))), (4, .int (i32 (j 4)))], [], (khp m c, N), 0, 0) (QS (FX0 c N) (kfl_rd_table_144 v2 m)) := by
  unfold kfl_rd_table_144
  show PP bb w D pm_127 (144, [(0, .ref 178), (1, .int (i32 (j 1))), (2, .ref (tbr v2)), (3, .int (i32 (j 3))), (4, .int (i32 (j 4)))], [], (khp (mO m [] []) c, N), 0, 0) _
  refine P_ld 145 (.ref 178) rfl (fun _ => rfl) ?_
  refine PK_gf 148 (.ref 6) rfl rfl kd_178 rfl rfl rfl ?_
  refine P_ld 150 (.int (i32 59)) rfl (fun _ => rfl) ?_
  refine P_cx0 153 78 [.ref 6, .int (i32 59)] [] rfl (fun _ => rfl) rfl rfl (D_tx_expect w m c N D hm 59 (l32 59 rfl)) (fun y x hm e => ⟨_, rfl, hm, Or.inr ⟨x, e, rfl⟩⟩) (fun y3 n5 => ?_)
  refine P_ld 154 (.ref 178) rfl (fun _ => rfl) ?_
  refine PK_gf 157 (.ref 6) rfl rfl kd_178 rfl rfl rfl ?_
  refine P_ld 160 (.int (i32 308)) rfl (fun _ => rfl) ?_
  refine P_cx0 163 78 [.ref 6, .int (i32 308)] [] rfl (fun _ => rfl) rfl rfl (D_tx_expect w y3.2.2 c N D n5 308 (l32 308 rfl)) (fun y x hm e => ⟨_, rfl, hm, Or.inr ⟨x, e, rfl⟩⟩) (fun y6 n8 => ?_)
  refine P_ld 164 (.ref 178) rfl (fun _ => rfl) ?_
  refine P_ld 165 (.ref (tbr v2)) rfl (fun _ => rfl) ?_
  refine P_cx0 168 133 [.ref 178, .ref (tbr v2)] [] rfl (fun _ => rfl) rfl rfl (D_rd_defaultLine w y6.2.2 c N D n8 v2 q2) (fun y x hm e => ⟨_, rfl, hm, Or.inr ⟨x, e, rfl⟩⟩) (fun y9 n11 => ?_)
  refine P_ld 169 (.ref 178) rfl (fun _ => rfl) ?_
  refine PK_gf 172 (.ref 6) rfl rfl kd_178 rfl rfl rfl ?_
  refine P_ld 175 (.int (i32 316)) rfl (fun _ => rfl) ?_
  refine P_cx0 178 78 [.ref 6, .int (i32 316)] [] rfl (fun _ => rfl) rfl rfl (D_tx_expect w y9.2.2 c N D n11 316 (l32 316 rfl)) (fun y x hm e => ⟨_, rfl, hm, Or.inr ⟨x, e, rfl⟩⟩) (fun y12 n14 => ?_)
  refine P_ld 179 (.ref 178) rfl (fun _ => rfl) ?_
  refine P_ld 180 (.ref (tbr v2)) rfl (fun _ => rfl) ?_
  refine P_cx0 183 134 [.ref 178, .ref (tbr v2)] [] rfl (fun _ => rfl) rfl rfl (D_rd_roomLine w y12.2.2 c N D n14 v2 q2) (fun y x hm e => ⟨_, rfl, hm, Or.inr ⟨x, e, rfl⟩⟩) (fun y15 n17 => ?_)
  refine P_ld 184 (.ref 178) rfl (fun _ => rfl) ?_
  refine PK_gf 187 (.ref 6) rfl rfl kd_178 rfl rfl rfl ?_
  refine P_ld 189 (.int (i32 125)) rfl (fun _ => rfl) ?_
  refine P_cx0 192 78 [.ref 6, .int (i32 125)] [] rfl (fun _ => rfl) rfl rfl (D_tx_expect w y15.2.2 c N D n17 125 (l32 125 rfl)) (fun y x hm e => ⟨_, rfl, hm, Or.inr ⟨x, e, rfl⟩⟩) (fun y18 n20 => ?_)
  exact P_rx0 rfl rfl n20
def kfb_rd_table_115 (v2 : Int) (s : Int × Int × mR) : Option (Sum (Int × Int × mR) (Sum (mR) (Int × mR))) :=
  if (8 : Int) < s.2.1 then
    some (.inr (.inl s.2.2))
  else
    if s.1 = 0 then
      some (.inr (.inl s.2.2))
    else
      bnd (kf_rd_listedAction v2 s.2.1 s.2.2) fun y24 =>
      if y24.1 = 0 then
        bnd (kf_rd_goesOnList y24.2.2) fun y27 =>
        if y27.1 = 0 then
          some (.inl (y27.2.1, cut (s.2.1 + 1), y27.2.2))
        else
          some (.inr (.inr (y27.1, y27.2.2)))
      else
        some (.inr (.inr (y24.1, y24.2.2)))
theorem dh_rd_table_115 (w : wX) (c : Nat → Option am_C) (N D : Nat) (v2 : Int) (q2 : Rt v2) (bb : Nat) (Q2 : Sum (Int × Int × mR) (Sum (mR) (Int × mR)) → ag_Re af_T → Prop) (H1 : ∀ s j, cs_rd_table_115 s → PP bb w D pm_127 (hd_rd_table_115 c N v2 s j) (Q2 (.inl s))) (H2 : ∀ x j, cx_rd_table_115 x → PP bb w D pm_127 (ex_rd_table_115 c N v2 x j) (Q2 (.inr x))) (H3 : ∀ x r, tx_rd_table_115 c N x r → Q2 (.inr x) r) (s : Int × Int × mR) (j : Nat → Int) (hs : cs_rd_table_115 s) : PP (bb + 1) w D pm_127 (hd_rd_table_115 c N v2 s j) (QS Q2 (kfb_rd_table_115 v2 s)) := by
  obtain ⟨g3, g4, gm⟩ := hs
  unfold kfb_rd_table_115
  show PP (bb + 1) w D pm_127 (115, [(0, .ref 178), (1, .int (i32 (j 1))), (2, .ref (tbr v2)), (3, .int (i32 s.1)), (4, .int (i32 s.2.1))], [], (khp (mO s.2.2 [] []) c, N), 0, 0) _
  refine P1_ld 117 (.int (i32 s.2.1)) rfl (fun _ => rfl) ?_
  refine P_ld 119 (.int (i32 8)) rfl (fun _ => rfl) ?_
  refine P_icF 144 122 rfl rfl rfl g4 (l32 8 rfl) rfl (fun h22 => ?_) (fun h22 => ?_)
  · skip
    refine P_some ?_
    exact H2 (.inl s.2.2) (jk [(1, j 1), (3, s.1), (4, s.2.1)]) gm
  · skip
    refine P_ld 123 (.int (i32 s.1)) rfl (fun _ => rfl) ?_
    refine P_ifF 144 126 rfl rfl rfl g3 rfl (fun h23 => ?_) (fun h23 => ?_)
    · skip
      refine P_some ?_
      exact H2 (.inl s.2.2) (jk [(1, j 1), (3, s.1), (4, s.2.1)]) gm
    · skip
      refine P_ld 127 (.ref 178) rfl (fun _ => rfl) ?_
      refine P_ld 128 (.ref (tbr v2)) rfl (fun _ => rfl) ?_
      refine P_ld 130 (.int (i32 s.2.1)) rfl (fun _ => rfl) ?_
      refine P_cx0 133 131 [.ref 178, .ref (tbr v2), .int (i32 s.2.1)] [] rfl (fun _ => rfl) rfl rfl (D_rd_listedAction w s.2.2 c N D gm v2 s.2.1 q2 g4) (fun y x hm e => ⟨_, rfl, H3 _ _ ⟨x, e, hm, rfl⟩⟩) (fun y24 n26 => ?_)
      refine P_ld 134 (.ref 178) rfl (fun _ => rfl) ?_
      refine P_cx1 137 120 [.ref 178] [] rfl (fun _ => rfl) rfl rfl (D_rd_goesOnList w y24.2.2 c N D n26) (fun y x hm e => ⟨_, rfl, H3 _ _ ⟨x, e, hm, rfl⟩⟩) (fun y27 h28 n29 => ?_)
      refine P_sto 138 [(3, .int (i32 y27.2.1)), (0, .ref 178), (1, .int (i32 (j 1))), (2, .ref (tbr v2)), (4, .int (i32 s.2.1))] rfl (fun _ => rfl) ?_
      refine P_inc 141 [(4, .int (i32 (cut (s.2.1 + 1)))), (3, .int (i32 y27.2.1)), (0, .ref 178), (1, .int (i32 (j 1))), (2, .ref (tbr v2))] rfl rfl (by decide) rfl rfl ?_
      refine P_goto 115 rfl (fun _ => rfl) ?_
      refine P_some ?_
      refine P_lv (b := [(0, .ref 178), (1, .int (i32 (j 1))), (2, .ref (tbr v2)), (3, .int (i32 y27.2.1)), (4, .int (i32 (cut (s.2.1 + 1))))]) rfl rfl ⟨rfl, rfl, rfl, rfl, rfl, trivial⟩ ?_
      exact H1 (y27.2.1, cut (s.2.1 + 1), y27.2.2) (jk [(1, j 1)]) ⟨h28, cut_r, n29⟩
def kfl_rd_table_100 (v2 : Int) (m : mR) : Option (Int × Int × mR) :=
  bnd (kf_tx_expect 315 m) fun y30 =>
  if y30.1 = 0 then
    bnd (whl (kfb_rd_table_115 v2) (1, 0, y30.2.2)) (sel
      (fun e33 : mR =>
        kfl_rd_table_144 v2 e33)
      (fun e36 : Int × mR =>
        some (e36.1, 0, e36.2)))
  else
    some (y30.1, 0, y30.2.2)
theorem dg_rd_table_100 (w : wX) (c : Nat → Option am_C) (N D : Nat) (bb : Nat) (v2 : Int) (q2 : Rt v2) (m : mR) (hm : KCn m) (j : Nat → Int) : PP bb w D pm_127 (100, [(0, .ref 178), (1, .int (i32 (j 1))), (2, .ref (tbr v2)), (3, .int (i32 (j 3)))], [], (khp m c, N), 0, 0) (QS (FX0 c N) (kfl_rd_table_100 v2 m)) := by
  unfold kfl_rd_table_100
  show PP bb w D pm_127 (100, [(0, .ref 178), (1, .int (i32 (j 1))), (2, .ref (tbr v2)), (3, .int (i32 (j 3)))], [], (khp (mO m [] []) c, N), 0, 0) _
  refine P_ld 101 (.ref 178) rfl (fun _ => rfl) ?_
  refine PK_gf 104 (.ref 6) rfl rfl kd_178 rfl rfl rfl ?_
  refine P_ld 107 (.int (i32 315)) rfl (fun _ => rfl) ?_
  refine P_cx0 110 78 [.ref 6, .int (i32 315)] [] rfl (fun _ => rfl) rfl rfl (D_tx_expect w m c N D hm 315 (l32 315 rfl)) (fun y x hm e => ⟨_, rfl, hm, Or.inr ⟨x, e, rfl⟩⟩) (fun y30 n32 => ?_)
  refine P_ld 111 (.int (i32 1)) rfl (fun _ => rfl) ?_
  refine P_sto 112 [(3, .int (i32 1)), (0, .ref 178), (1, .int (i32 (j 1))), (2, .ref (tbr v2))] rfl (fun _ => rfl) ?_
  refine P_ld 113 (.int (i32 0)) rfl (fun _ => rfl) ?_
  refine P_sto 115 [(4, .int (i32 0)), (3, .int (i32 1)), (0, .ref 178), (1, .int (i32 (j 1))), (2, .ref (tbr v2))] rfl (fun _ => rfl) ?_
  refine P_lv (b := [(0, .ref 178), (1, .int (i32 (j 1))), (2, .ref (tbr v2)), (3, .int (i32 1)), (4, .int (i32 0))]) rfl rfl ⟨rfl, rfl, rfl, rfl, rfl, trivial⟩ ?_
  refine P_bnd ?_
  refine P_whlx (TX := tx_rd_table_115 c N) (fun bb Q2 H1 H2 H3 s9 j9 hs9 => dh_rd_table_115 w c N D v2 q2 bb Q2 H1 H2 H3 s9 j9 hs9) bb (fun x r hr => ?_) (fun x0 j hx0 => ?_) (1, 0, y30.2.2) (jk [(1, j 1)]) ⟨(l32 1 rfl), (l32 0 rfl), n32⟩
  · skip
    cases x with
    | inl e => exact False.elim hr
    | inr x =>
      obtain ⟨x9, e9, k9, rfl⟩ := hr
      exact ⟨_, rfl, k9, Or.inr ⟨x9, e9, rfl⟩⟩
  cases x0 with
  | inl e33 =>
    have q34 := hx0
    have q35 := q34
    show PP bb w D pm_127 (144, [(0, .ref 178), (1, .int (i32 (j 1))), (2, .ref (tbr v2)), (3, .int (i32 (j 3))), (4, .int (i32 (j 4)))], [], (khp (mO e33 [] []) c, N), 0, 0) (QS _ (kfl_rd_table_144 v2 e33))
    exact dg_rd_table_144 w c N D bb v2 q2 e33 q35 (jk [(1, j 1), (3, j 3), (4, j 4)])
  | inr e36 =>
    have q37 := hx0
    have q37 := q37
    exact False.elim q37
def kfl_rd_table_88 (v2 : Int) (v3 : Int) (m : mR) : Option (Sum (Int × mR) (Sum (mR) (Int × mR))) :=
  bnd (kf_rd_keyLine v2 v3 m) fun y38 =>
  if y38.1 = 0 then
    some (.inl (cut (v3 + 1), y38.2.2))
  else
    some (.inr (.inr (y38.1, y38.2.2)))
theorem dg_rd_table_88 (w : wX) (c : Nat → Option am_C) (N D : Nat) (bb : Nat) (v2 : Int) (v3 : Int) (q2 : Rt v2) (q3 : R32 v3) (m : mR) (hm : KCn m) (j : Nat → Int) (Q2 : Sum (Int × mR) (Sum (mR) (Int × mR)) → ag_Re af_T → Prop) (H1 : ∀ s j, cs_rd_table_66 s → PP bb w D pm_127 (hd_rd_table_66 c N v2 s j) (Q2 (.inl s))) (H2 : ∀ x j, cx_rd_table_66 x → PP bb w D pm_127 (ex_rd_table_66 c N v2 x j) (Q2 (.inr x))) (H3 : ∀ x r, tx_rd_table_66 c N x r → Q2 (.inr x) r) : PP bb w D pm_127 (88, [(0, .ref 178), (1, .int (i32 (j 1))), (2, .ref (tbr v2)), (3, .int (i32 v3))], [], (khp m c, N), 0, 0) (QS Q2 (kfl_rd_table_88 v2 v3 m)) := by
  unfold kfl_rd_table_88
  show PP bb w D pm_127 (88, [(0, .ref 178), (1, .int (i32 (j 1))), (2, .ref (tbr v2)), (3, .int (i32 v3))], [], (khp (mO m [] []) c, N), 0, 0) _
  refine P_ld 89 (.ref 178) rfl (fun _ => rfl) ?_
  refine P_ld 90 (.ref (tbr v2)) rfl (fun _ => rfl) ?_
  refine P_ld 91 (.int (i32 v3)) rfl (fun _ => rfl) ?_
  refine P_cx0 94 129 [.ref 178, .ref (tbr v2), .int (i32 v3)] [] rfl (fun _ => rfl) rfl rfl (D_rd_keyLine w m c N D hm v2 v3 q2 q3) (fun y x hm e => ⟨_, rfl, H3 _ _ ⟨x, e, hm, rfl⟩⟩) (fun y38 n40 => ?_)
  refine P_inc 97 [(3, .int (i32 (cut (v3 + 1)))), (0, .ref 178), (1, .int (i32 (j 1))), (2, .ref (tbr v2))] rfl rfl (by decide) rfl rfl ?_
  refine P_goto 66 rfl (fun _ => rfl) ?_
  refine P_some ?_
  refine P_lv (b := [(0, .ref 178), (1, .int (i32 (j 1))), (2, .ref (tbr v2)), (3, .int (i32 (cut (v3 + 1))))]) rfl rfl ⟨rfl, rfl, rfl, rfl, trivial⟩ ?_
  exact H1 (cut (v3 + 1), y38.2.2) (jk [(1, j 1)]) ⟨cut_r, n40⟩
def kfb_rd_table_66 (v2 : Int) (s : Int × mR) : Option (Sum (Int × mR) (Sum (mR) (Int × mR))) :=
  if (4 : Int) < s.1 then
    some (.inr (.inl s.2))
  else
    if s.1 = 0 then
      kfl_rd_table_88 v2 s.1 s.2
    else
      if s.2.1 206 = 311 then
        kfl_rd_table_88 v2 s.1 s.2
      else
        some (.inr (.inl s.2))
theorem dh_rd_table_66 (w : wX) (c : Nat → Option am_C) (N D : Nat) (v2 : Int) (q2 : Rt v2) (bb : Nat) (Q2 : Sum (Int × mR) (Sum (mR) (Int × mR)) → ag_Re af_T → Prop) (H1 : ∀ s j, cs_rd_table_66 s → PP bb w D pm_127 (hd_rd_table_66 c N v2 s j) (Q2 (.inl s))) (H2 : ∀ x j, cx_rd_table_66 x → PP bb w D pm_127 (ex_rd_table_66 c N v2 x j) (Q2 (.inr x))) (H3 : ∀ x r, tx_rd_table_66 c N x r → Q2 (.inr x) r) (s : Int × mR) (j : Nat → Int) (hs : cs_rd_table_66 s) : PP (bb + 1) w D pm_127 (hd_rd_table_66 c N v2 s j) (QS Q2 (kfb_rd_table_66 v2 s)) := by
  obtain ⟨g3, gm⟩ := hs
  unfold kfb_rd_table_66
  show PP (bb + 1) w D pm_127 (66, [(0, .ref 178), (1, .int (i32 (j 1))), (2, .ref (tbr v2)), (3, .int (i32 s.1))], [], (khp (mO s.2 [] []) c, N), 0, 0) _
  refine P1_ld 67 (.int (i32 s.1)) rfl (fun _ => rfl) ?_
  refine P_ld 68 (.int (i32 4)) rfl (fun _ => rfl) ?_
  refine P_icF 100 71 rfl rfl rfl g3 (l32 4 rfl) rfl (fun h42 => ?_) (fun h42 => ?_)
  · skip
    refine P_some ?_
    exact H2 (.inl s.2) (jk [(1, j 1), (3, s.1)]) gm
  · skip
    refine P_ld 72 (.int (i32 s.1)) rfl (fun _ => rfl) ?_
    refine P_ifF 88 75 rfl rfl rfl g3 rfl (fun h43 => ?_) (fun h43 => ?_)
    · skip
      exact dg_rd_table_88 w c N D bb v2 s.1 q2 g3 s.2 gm (jk [(1, j 1)]) Q2 H1 H2 H3
    · skip
      refine P_ld 76 (.ref 178) rfl (fun _ => rfl) ?_
      refine PK_gf 79 (.ref 6) rfl rfl kd_178 rfl rfl rfl ?_
      refine PK_gf 82 (.int (i32 (s.2.1 206))) rfl rfl kd_6 rfl rfl rfl ?_
      refine P_ld 85 (.int (i32 311)) rfl (fun _ => rfl) ?_
      refine P_icE 100 88 rfl rfl rfl (KCn_i gm 206 rfl) (l32 311 rfl) rfl (fun h44 => ?_) (fun h44 => ?_)
      · skip
        exact dg_rd_table_88 w c N D bb v2 s.1 q2 g3 s.2 gm (jk [(1, j 1)]) Q2 H1 H2 H3
      · skip
        refine P_some ?_
        exact H2 (.inl s.2) (jk [(1, j 1), (3, s.1)]) gm
def kf_rd_table (m : mR) : Option (Int × Int × mR) :=
  bnd (kf_tx_advance m) fun y45 =>
  if y45.1 = 0 then
    bnd (kf_tx_makeNew 310 (y45.2.2.1 219) 8 y45.2.2) fun y48 =>
    if y48.1 = 0 then
      bnd (kf_tb_clear (y45.2.2.1 219) (mO y48.2.2 [(219, cut ((y48.2.2.1 219) + 1))] [])) fun y52 =>
      bnd (kf_tx_expect 123 y52.2) fun y55 =>
      if y55.1 = 0 then
        bnd (whl (kfb_rd_table_66 (y45.2.2.1 219)) (0, y55.2.2)) (sel
          (fun e58 : mR =>
            kfl_rd_table_100 (y45.2.2.1 219) e58)
          (fun e61 : Int × mR =>
            some (e61.1, 0, e61.2)))
      else
        some (y55.1, 0, y55.2.2)
    else
      some (y48.1, 0, y48.2.2)
  else
    some (y45.1, 0, y45.2.2)
theorem D_rd_table (w : wX) (m : mR) (c : Nat → Option am_C) (N D : Nat) (hm : KCn m) : PC w D 127 [.ref 178] (khp m c, N) (QS (FX0 c N) (kf_rd_table m)) := by
  refine Pc_of (fun D bb => ?_) D
  unfold kf_rd_table
  show PP bb w D pm_127 (0, [(0, .ref 178)], [], (khp (mO m [] []) c, N), 0, 0) _
  refine P_ld 1 (.ref 178) rfl (fun _ => rfl) ?_
  refine PK_gf 4 (.ref 6) rfl rfl kd_178 rfl rfl rfl ?_
  refine P_cx0 7 50 [.ref 6] [] rfl (fun _ => rfl) rfl rfl (D_tx_advance w m c N D hm) (fun y x hm e => ⟨_, rfl, hm, Or.inr ⟨x, e, rfl⟩⟩) (fun y45 n47 => ?_)
  refine P_ld 8 (.ref 178) rfl (fun _ => rfl) ?_
  refine PK_gf 11 (.ref 12) rfl rfl kd_178 rfl rfl rfl ?_
  refine PK_gf 14 (.int (i32 (y45.2.2.1 219))) rfl rfl kd_12 rfl rfl rfl ?_
  refine P_sto 15 [(1, .int (i32 (y45.2.2.1 219))), (0, .ref 178)] rfl (fun _ => rfl) ?_
  refine P_ld 16 (.ref 178) rfl (fun _ => rfl) ?_
  refine PK_gf 19 (.ref 6) rfl rfl kd_178 rfl rfl rfl ?_
  refine P_ld 22 (.int (i32 310)) rfl (fun _ => rfl) ?_
  refine P_ld 23 (.int (i32 (y45.2.2.1 219))) rfl (fun _ => rfl) ?_
  refine P_ld 25 (.int (i32 8)) rfl (fun _ => rfl) ?_
  refine P_cx0 28 75 [.ref 6, .int (i32 310), .int (i32 (y45.2.2.1 219)), .int (i32 8)] [] rfl (fun _ => rfl) rfl rfl (D_tx_makeNew w y45.2.2 c N D n47 310 (y45.2.2.1 219) 8 (l32 310 rfl) (KCn_i n47 219 rfl) (l32 8 rfl)) (fun y x hm e => ⟨_, rfl, hm, Or.inr ⟨x, e, rfl⟩⟩) (fun y48 n50 => ?_)
  refine P_ld 29 (.ref 178) rfl (fun _ => rfl) ?_
  refine PK_gf 32 (.ref 12) rfl rfl kd_178 rfl rfl rfl ?_
  refine P_ld 33 (.ref 12) rfl (fun _ => rfl) ?_
  refine PK_gf 36 (.int (i32 (y48.2.2.1 219))) rfl rfl kd_12 rfl rfl rfl ?_
  refine P_ld 37 (.int (i32 1)) rfl (fun _ => rfl) ?_
  refine P_op 38 (cut ((y48.2.2.1 219) + 1)) _ rfl (fun _ => rfl) o_add ?_
  refine PK_pf (l' := [(219, cut ((y48.2.2.1 219) + 1))]) 41 (cut ((y48.2.2.1 219) + 1)) rfl rfl kd_12 rfl rfl rfl rfl rfl rfl rfl ?_
  refine P_ld 42 (.ref 178) rfl (fun _ => rfl) ?_
  refine PK_gf 45 (.ref 12) rfl rfl kd_178 rfl rfl rfl ?_
  refine PK_gf 48 (.ref 21) rfl rfl kd_12 rfl rfl rfl ?_
  refine P_ld 49 (.int (i32 (y45.2.2.1 219))) rfl (fun _ => rfl) ?_
  refine PK_aatb2 50 rfl (KCn_i n47 219 rfl) rfl (fun t51 => ?_)
  refine P_sto 51 [(2, .ref (tbr (y45.2.2.1 219))), (1, .int (i32 (y45.2.2.1 219))), (0, .ref 178)] rfl (fun _ => rfl) ?_
  refine P_ld 52 (.ref (tbr (y45.2.2.1 219))) rfl (fun _ => rfl) ?_
  refine P_ck0 55 128 [.ref (tbr (y45.2.2.1 219))] [] rfl (inv_vt (args := []) (khp_t0 _ t51.1 t51.2) rfl rfl rfl) rfl (D_tb_clear w (mO y48.2.2 [(219, cut ((y48.2.2.1 219) + 1))] []) c N D (KCn_mO n50 rfl rfl ⟨(kV_i rfl cut_r), trivial⟩ trivial) (y45.2.2.1 219) t51) (fun y52 n54 => ?_)
  refine P_ld 56 (.ref 178) rfl (fun _ => rfl) ?_
  refine PK_gf 59 (.ref 6) rfl rfl kd_178 rfl rfl rfl ?_
  refine P_ld 61 (.int (i32 123)) rfl (fun _ => rfl) ?_
  refine P_cx0 64 78 [.ref 6, .int (i32 123)] [] rfl (fun _ => rfl) rfl rfl (D_tx_expect w y52.2 c N D n54 123 (l32 123 rfl)) (fun y x hm e => ⟨_, rfl, hm, Or.inr ⟨x, e, rfl⟩⟩) (fun y55 n57 => ?_)
  refine P_ld 65 (.int (i32 0)) rfl (fun _ => rfl) ?_
  refine P_sto 66 [(3, .int (i32 0)), (2, .ref (tbr (y45.2.2.1 219))), (1, .int (i32 (y45.2.2.1 219))), (0, .ref 178)] rfl (fun _ => rfl) ?_
  refine P_lv (b := [(0, .ref 178), (1, .int (i32 (y45.2.2.1 219))), (2, .ref (tbr (y45.2.2.1 219))), (3, .int (i32 0))]) rfl rfl ⟨rfl, rfl, rfl, rfl, trivial⟩ ?_
  refine P_bnd ?_
  refine P_whlx (TX := tx_rd_table_66 c N) (fun bb Q2 H1 H2 H3 s9 j9 hs9 => dh_rd_table_66 w c N D (y45.2.2.1 219) t51 bb Q2 H1 H2 H3 s9 j9 hs9) bb (fun x r hr => ?_) (fun x0 j hx0 => ?_) (0, y55.2.2) (jk [(1, y45.2.2.1 219)]) ⟨(l32 0 rfl), n57⟩
  · skip
    cases x with
    | inl e => exact False.elim hr
    | inr x =>
      obtain ⟨x9, e9, k9, rfl⟩ := hr
      exact ⟨_, rfl, k9, Or.inr ⟨x9, e9, rfl⟩⟩
  cases x0 with
  | inl e58 =>
    have q59 := hx0
    have q60 := q59
    show PP bb w D pm_127 (100, [(0, .ref 178), (1, .int (i32 (j 1))), (2, .ref (tbr (y45.2.2.1 219))), (3, .int (i32 (j 3)))], [], (khp (mO e58 [] []) c, N), 0, 0) (QS _ (kfl_rd_table_100 (y45.2.2.1 219) e58))
    exact dg_rd_table_100 w c N D bb (y45.2.2.1 219) t51 e58 q60 (jk [(1, j 1), (3, j 3)])
  | inr e61 =>
    have q62 := hx0
    have q62 := q62
    exact False.elim q62
def kfl_rd_parameter_81 (v1 : Int) (v2 : Int) (m : mR) : Option (Int × Int × mR) :=
  bnd (kf_tx_advance (mO m [] [(41, upI (m.2 41) (cut ((cut (v1 * 4)) + v2)) (m.1 209)), (42, upI (m.2 42) (cut ((cut (v1 * 4)) + v2)) (m.1 210))])) fun y1 =>
  if y1.1 = 0 then
    bnd (kf_tx_expect 58 y1.2.2) fun y4 =>
    if y4.1 = 0 then
      bnd (kf_tx_within 1 64 y4.2.2) fun y7 =>
      if y7.1 = 0 then
        some (0, 0, (mO y7.2.2 [] [(39, upI (y7.2.2.2 39) v1 (cut (v2 + 1))), (40, upI (y7.2.2.2 40) (cut ((cut (v1 * 4)) + v2)) y7.2.1)]))
      else
        some (y7.1, 0, y7.2.2)
    else
      some (y4.1, 0, y4.2.2)
  else
    some (y1.1, 0, y1.2.2)
theorem dg_rd_parameter_81 (w : wX) (c : Nat → Option am_C) (N D : Nat) (bb : Nat) (v1 : Int) (v2 : Int) (q1 : R32 v1) (q2 : R32 v2) (m : mR) (hm : KCn m) (j : Nat → Int) : PP bb w D pm_119 (81, [(0, .ref 178), (1, .int (i32 v1)), (2, .int (i32 v2))], [], (khp m c, N), 0, 0) (QS (FX0 c N) (kfl_rd_parameter_81 v1 v2 m)) := by
  unfold kfl_rd_parameter_81
  show PP bb w D pm_119 (81, [(0, .ref 178), (1, .int (i32 v1)), (2, .int (i32 v2))], [], (khp (mO m [] []) c, N), 0, 0) _
  refine P_ld 82 (.int (i32 v1)) rfl (fun _ => rfl) ?_
  refine P_ld 83 (.int (i32 4)) rfl (fun _ => rfl) ?_
  refine P_op 84 (cut (v1 * 4)) _ rfl (fun _ => rfl) o_mul ?_
  refine P_ld 85 (.int (i32 v2)) rfl (fun _ => rfl) ?_
  refine P_op 86 (cut ((cut (v1 * 4)) + v2)) _ rfl (fun _ => rfl) o_add ?_
  refine P_sto 87 [(3, .int (i32 (cut ((cut (v1 * 4)) + v2)))), (0, .ref 178), (1, .int (i32 v1)), (2, .int (i32 v2))] rfl (fun _ => rfl) ?_
  refine P_ld 88 (.ref 178) rfl (fun _ => rfl) ?_
  refine PK_gf 91 (.ref 45) rfl rfl kd_178 rfl rfl rfl ?_
  refine PK_gf 94 (.ref 48) rfl rfl kd_45 rfl rfl rfl ?_
  refine P_ld 95 (.int (i32 (cut ((cut (v1 * 4)) + v2)))) rfl (fun _ => rfl) ?_
  refine P_ld 96 (.ref 178) rfl (fun _ => rfl) ?_
  refine PK_gf 99 (.ref 6) rfl rfl kd_178 rfl rfl rfl ?_
  refine PK_gf 102 (.long (i64 (m.1 209))) rfl rfl kd_6 rfl rfl rfl ?_
  refine PK_last2 (a' := [(41, upI (m.2 41) (cut ((cut (v1 * 4)) + v2)) (m.1 209))]) 103 41 (m.2 41) rfl rfl rfl cut_r rfl rfl ?_
  refine P_ld 104 (.ref 178) rfl (fun _ => rfl) ?_
  refine PK_gf 107 (.ref 45) rfl rfl kd_178 rfl rfl rfl ?_
  refine PK_gf 110 (.ref 49) rfl rfl kd_45 rfl rfl rfl ?_
  refine P_ld 111 (.int (i32 (cut ((cut (v1 * 4)) + v2)))) rfl (fun _ => rfl) ?_
  refine P_ld 112 (.ref 178) rfl (fun _ => rfl) ?_
  refine PK_gf 115 (.ref 6) rfl rfl kd_178 rfl rfl rfl ?_
  refine PK_gf 118 (.long (i64 (m.1 210))) rfl rfl kd_6 rfl rfl rfl ?_
  refine PK_last2 (a' := [(41, upI (m.2 41) (cut ((cut (v1 * 4)) + v2)) (m.1 209)), (42, upI (m.2 42) (cut ((cut (v1 * 4)) + v2)) (m.1 210))]) 119 42 (m.2 42) rfl rfl rfl cut_r rfl rfl ?_
  refine P_ld 120 (.ref 178) rfl (fun _ => rfl) ?_
  refine PK_gf 123 (.ref 6) rfl rfl kd_178 rfl rfl rfl ?_
  refine P_cx0 126 50 [.ref 6] [] rfl (fun _ => rfl) rfl rfl (D_tx_advance w (mO m [] [(41, upI (m.2 41) (cut ((cut (v1 * 4)) + v2)) (m.1 209)), (42, upI (m.2 42) (cut ((cut (v1 * 4)) + v2)) (m.1 210))]) c N D (KCn_mO hm rfl rfl trivial ⟨(kE_ul (KCn_a hm 41) rfl (KCn_l hm 209 rfl)), (kE_ul (KCn_a hm 42) rfl (KCn_l hm 210 rfl)), trivial⟩)) (fun y x hm e => ⟨_, rfl, hm, Or.inr ⟨x, e, rfl⟩⟩) (fun y1 n3 => ?_)
  refine P_ld 127 (.ref 178) rfl (fun _ => rfl) ?_
  refine PK_gf 130 (.ref 6) rfl rfl kd_178 rfl rfl rfl ?_
  refine P_ld 132 (.int (i32 58)) rfl (fun _ => rfl) ?_
  refine P_cx0 135 78 [.ref 6, .int (i32 58)] [] rfl (fun _ => rfl) rfl rfl (D_tx_expect w y1.2.2 c N D n3 58 (l32 58 rfl)) (fun y x hm e => ⟨_, rfl, hm, Or.inr ⟨x, e, rfl⟩⟩) (fun y4 n6 => ?_)
  refine P_ld 136 (.ref 178) rfl (fun _ => rfl) ?_
  refine PK_gf 139 (.ref 45) rfl rfl kd_178 rfl rfl rfl ?_
  refine PK_gf 142 (.ref 47) rfl rfl kd_45 rfl rfl rfl ?_
  refine P_ld 143 (.int (i32 (cut ((cut (v1 * 4)) + v2)))) rfl (fun _ => rfl) ?_
  refine P_ld 144 (.ref 178) rfl (fun _ => rfl) ?_
  refine PK_gf 147 (.ref 6) rfl rfl kd_178 rfl rfl rfl ?_
  refine P_ld 148 (.int (i32 1)) rfl (fun _ => rfl) ?_
  refine P_ld 150 (.int (i32 64)) rfl (fun _ => rfl) ?_
  refine P_cx1 153 81 [.ref 6, .int (i32 1), .int (i32 64)] [.int (i32 (cut ((cut (v1 * 4)) + v2))), .ref 47] rfl (fun _ => rfl) rfl rfl (D_tx_within w y4.2.2 c N D n6 1 64 (l32 1 rfl) (l32 64 rfl)) (fun y x hm e => ⟨_, rfl, hm, Or.inr ⟨x, e, rfl⟩⟩) (fun y7 h8 n9 => ?_)
  refine PK_iast2 (a' := [(40, upI (y7.2.2.2 40) (cut ((cut (v1 * 4)) + v2)) y7.2.1)]) 154 40 (y7.2.2.2 40) rfl rfl rfl cut_r rfl rfl ?_
  refine P_ld 155 (.ref 178) rfl (fun _ => rfl) ?_
  refine PK_gf 158 (.ref 45) rfl rfl kd_178 rfl rfl rfl ?_
  refine PK_gf 161 (.ref 46) rfl rfl kd_45 rfl rfl rfl ?_
  refine P_ld 162 (.int (i32 v1)) rfl (fun _ => rfl) ?_
  refine P_ld 163 (.int (i32 v2)) rfl (fun _ => rfl) ?_
  refine P_ld 164 (.int (i32 1)) rfl (fun _ => rfl) ?_
  refine P_op 165 (cut (v2 + 1)) _ rfl (fun _ => rfl) o_add ?_
  refine PK_iast2 (a' := [(39, upI (y7.2.2.2 39) v1 (cut (v2 + 1))), (40, upI (y7.2.2.2 40) (cut ((cut (v1 * 4)) + v2)) y7.2.1)]) 166 39 (y7.2.2.2 39) rfl rfl rfl q1 rfl rfl ?_
  exact P_rx0 rfl rfl (KCn_mO n9 rfl rfl trivial ⟨(kE_ui (KCn_a n9 39) rfl cut_r), (kE_ui (KCn_a n9 40) rfl h8), trivial⟩)
def kfl_rd_parameter_40 (v1 : Int) (v2 : Int) (m : mR) : Option (Int × Int × mR) :=
  bnd (kf_ac_parameterOf v1 (m.1 209) (m.1 210) m) fun y10 =>
  if y10 = (-1) then
    kfl_rd_parameter_81 v1 v2 m
  else
    bnd (kf_tx_fail 3 (m.1 207) m) fun y14 =>
    if y14.1 = 0 then
      kfl_rd_parameter_81 v1 v2 y14.2.2
    else
      some (y14.1, 0, y14.2.2)
theorem dg_rd_parameter_40 (w : wX) (c : Nat → Option am_C) (N D : Nat) (bb : Nat) (v1 : Int) (v2 : Int) (q1 : R32 v1) (q2 : R32 v2) (m : mR) (hm : KCn m) (j : Nat → Int) : PP bb w D pm_119 (40, [(0, .ref 178), (1, .int (i32 v1)), (2, .int (i32 v2))], [], (khp m c, N), 0, 0) (QS (FX0 c N) (kfl_rd_parameter_40 v1 v2 m)) := by
  unfold kfl_rd_parameter_40
  show PP bb w D pm_119 (40, [(0, .ref 178), (1, .int (i32 v1)), (2, .int (i32 v2))], [], (khp (mO m [] []) c, N), 0, 0) _
  refine P_ld 41 (.ref 178) rfl (fun _ => rfl) ?_
  refine PK_gf 44 (.ref 45) rfl rfl kd_178 rfl rfl rfl ?_
  refine P_ld 45 (.int (i32 v1)) rfl (fun _ => rfl) ?_
  refine P_ld 46 (.ref 178) rfl (fun _ => rfl) ?_
  refine PK_gf 49 (.ref 6) rfl rfl kd_178 rfl rfl rfl ?_
  refine PK_gf 52 (.long (i64 (m.1 209))) rfl rfl kd_6 rfl rfl rfl ?_
  refine P_ld 53 (.ref 178) rfl (fun _ => rfl) ?_
  refine PK_gf 56 (.ref 6) rfl rfl kd_178 rfl rfl rfl ?_
  refine PK_gf 59 (.long (i64 (m.1 210))) rfl rfl kd_6 rfl rfl rfl ?_
  refine P_cp1 62 98 [.ref 45, .int (i32 v1), .long (i64 (m.1 209)), .long (i64 (m.1 210))] [] rfl (fun _ => rfl) rfl (D_ac_parameterOf w m c N D hm v1 (m.1 209) (m.1 210) q1 (KCn_l hm 209 rfl) (KCn_l hm 210 rfl)) (fun y10 h11 => ?_)
  refine P_ld 63 (.int (i32 (-1))) rfl (fun _ => rfl) ?_
  refine P_icF 81 66 rfl rfl rfl h11 (l32 (-1) rfl) rfl (fun h13 => ?_) (fun h13 => ?_)
  · skip
    exact dg_rd_parameter_81 w c N D bb v1 v2 q1 q2 m hm (jk [])
  · skip
    refine P_ld 67 (.ref 178) rfl (fun _ => rfl) ?_
    refine PK_gf 70 (.ref 6) rfl rfl kd_178 rfl rfl rfl ?_
    refine P_ld 71 (.int (i32 3)) rfl (fun _ => rfl) ?_
    refine P_ld 72 (.ref 178) rfl (fun _ => rfl) ?_
    refine PK_gf 75 (.ref 6) rfl rfl kd_178 rfl rfl rfl ?_
    refine PK_gf 78 (.int (i32 (m.1 207))) rfl rfl kd_6 rfl rfl rfl ?_
    refine P_cx0 81 51 [.ref 6, .int (i32 3), .int (i32 (m.1 207))] [] rfl (fun _ => rfl) rfl rfl (D_tx_fail w m c N D hm 3 (m.1 207) (l32 3 rfl) (KCn_i hm 207 rfl)) (fun y x hm e => ⟨_, rfl, hm, Or.inr ⟨x, e, rfl⟩⟩) (fun y14 n16 => ?_)
    exact dg_rd_parameter_81 w c N D bb v1 v2 q1 q2 y14.2.2 n16 (jk [])
def kfl_rd_parameter_20 (v1 : Int) (v2 : Int) (m : mR) : Option (Int × Int × mR) :=
  if v2 < 4 then
    kfl_rd_parameter_40 v1 v2 m
  else
    bnd (kf_tx_fail 4 (m.1 207) m) fun y18 =>
    if y18.1 = 0 then
      kfl_rd_parameter_40 v1 v2 y18.2.2
    else
      some (y18.1, 0, y18.2.2)
theorem dg_rd_parameter_20 (w : wX) (c : Nat → Option am_C) (N D : Nat) (bb : Nat) (v1 : Int) (v2 : Int) (q1 : R32 v1) (q2 : R32 v2) (m : mR) (hm : KCn m) (j : Nat → Int) : PP bb w D pm_119 (20, [(0, .ref 178), (1, .int (i32 v1)), (2, .int (i32 v2))], [], (khp m c, N), 0, 0) (QS (FX0 c N) (kfl_rd_parameter_20 v1 v2 m)) := by
  unfold kfl_rd_parameter_20
  show PP bb w D pm_119 (20, [(0, .ref 178), (1, .int (i32 v1)), (2, .int (i32 v2))], [], (khp (mO m [] []) c, N), 0, 0) _
  refine P_ld 21 (.int (i32 v2)) rfl (fun _ => rfl) ?_
  refine P_ld 22 (.int (i32 4)) rfl (fun _ => rfl) ?_
  refine P_icF 40 25 rfl rfl rfl q2 (l32 4 rfl) rfl (fun h17 => ?_) (fun h17 => ?_)
  · skip
    exact dg_rd_parameter_40 w c N D bb v1 v2 q1 q2 m hm (jk [])
  · skip
    refine P_ld 26 (.ref 178) rfl (fun _ => rfl) ?_
    refine PK_gf 29 (.ref 6) rfl rfl kd_178 rfl rfl rfl ?_
    refine P_ld 30 (.int (i32 4)) rfl (fun _ => rfl) ?_
    refine P_ld 31 (.ref 178) rfl (fun _ => rfl) ?_
    refine PK_gf 34 (.ref 6) rfl rfl kd_178 rfl rfl rfl ?_
    refine PK_gf 37 (.int (i32 (m.1 207))) rfl rfl kd_6 rfl rfl rfl ?_
    refine P_cx0 40 51 [.ref 6, .int (i32 4), .int (i32 (m.1 207))] [] rfl (fun _ => rfl) rfl rfl (D_tx_fail w m c N D hm 4 (m.1 207) (l32 4 rfl) (KCn_i hm 207 rfl)) (fun y x hm e => ⟨_, rfl, hm, Or.inr ⟨x, e, rfl⟩⟩) (fun y18 n20 => ?_)
    exact dg_rd_parameter_40 w c N D bb v1 v2 q1 q2 y18.2.2 n20 (jk [])
def kf_rd_parameter (v1 : Int) (v2 : Int) (m : mR) : Option (Int × Int × mR) :=
  if m.1 206 = 256 then
    kfl_rd_parameter_20 v1 v2 m
  else
    bnd (kf_tx_refuse m) fun y22 =>
    if y22.1 = 0 then
      kfl_rd_parameter_20 v1 v2 y22.2.2
    else
      some (y22.1, 0, y22.2.2)
theorem D_rd_parameter (w : wX) (m : mR) (c : Nat → Option am_C) (N D : Nat) (hm : KCn m) (v1 : Int) (v2 : Int) (q1 : R32 v1) (q2 : R32 v2) : PC w D 119 [.ref 178, .int (i32 v1), .int (i32 v2)] (khp m c, N) (QS (FX0 c N) (kf_rd_parameter v1 v2 m)) := by
  refine Pc_of (fun D bb => ?_) D
  unfold kf_rd_parameter
  show PP bb w D pm_119 (0, [(0, .ref 178), (1, .int (i32 v1)), (2, .int (i32 v2))], [], (khp (mO m [] []) c, N), 0, 0) _
  refine P_ld 1 (.ref 178) rfl (fun _ => rfl) ?_
  refine PK_gf 4 (.ref 6) rfl rfl kd_178 rfl rfl rfl ?_
  refine PK_gf 7 (.int (i32 (m.1 206))) rfl rfl kd_6 rfl rfl rfl ?_
  refine P_ld 10 (.int (i32 256)) rfl (fun _ => rfl) ?_
  refine P_icF 20 13 rfl rfl rfl (KCn_i hm 206 rfl) (l32 256 rfl) rfl (fun h21 => ?_) (fun h21 => ?_)
  · skip
    exact dg_rd_parameter_20 w c N D bb v1 v2 q1 q2 m hm (jk [])
  · skip
    refine P_ld 14 (.ref 178) rfl (fun _ => rfl) ?_
    refine PK_gf 17 (.ref 6) rfl rfl kd_178 rfl rfl rfl ?_
    refine P_cx0 20 76 [.ref 6] [] rfl (fun _ => rfl) rfl rfl (D_tx_refuse w m c N D hm) (fun y x hm e => ⟨_, rfl, hm, Or.inr ⟨x, e, rfl⟩⟩) (fun y22 n24 => ?_)
    exact dg_rd_parameter_20 w c N D bb v1 v2 q1 q2 y22.2.2 n24 (jk [])
end X28M
