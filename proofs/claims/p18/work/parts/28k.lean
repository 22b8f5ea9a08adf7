noncomputable section X28K
def kfl_rd_openIf_90 (v1 : Int) (m : mR) : Option (Int × Int × mR) :=
  bnd (kf_tx_expect 123 m) fun y1 =>
  if y1.1 = 0 then
    some (0, 0, (mO y1.2.2 [(227, cut ((y1.2.2.1 227) + 1))] [(66, upI (y1.2.2.2 66) (cut ((y1.2.2.1 227) + 1)) v1), (67, upI (y1.2.2.2 67) (cut ((y1.2.2.1 227) + 1)) 1)]))
  else
    some (y1.1, 0, y1.2.2)
theorem dg_rd_openIf_90 (w : wX) (c : Nat → Option am_C) (N D : Nat) (bb : Nat) (v1 : Int) (q1 : R32 v1) (m : mR) (hm : KCn m) (j : Nat → Int) : PP bb w D pm_140 (90, [(0, .ref 178), (1, .int (i32 v1)), (2, .int (i32 (j 2)))], [], (khp m c, N), 0, 0) (QS (FX0 c N) (kfl_rd_openIf_90 v1 m)) := by
  unfold kfl_rd_openIf_90
  show PP bb w D pm_140 (90, [(0, .ref 178), (1, .int (i32 v1)), (2, .int (i32 (j 2)))], [], (khp (mO m [] []) c, N), 0, 0) _
  refine P_ld 91 (.ref 178) rfl (fun _ => rfl) ?_
  refine PK_gf 94 (.ref 6) rfl rfl kd_178 rfl rfl rfl ?_
  refine P_ld 96 (.int (i32 123)) rfl (fun _ => rfl) ?_
  refine P_cx0 99 78 [.ref 6, .int (i32 123)] [] rfl (fun _ => rfl) rfl rfl (D_tx_expect w m c N D hm 123 (l32 123 rfl)) (fun y x hm e => ⟨_, rfl, hm, Or.inr ⟨x, e, rfl⟩⟩) (fun y1 n3 => ?_)
  refine P_ld 100 (.ref 178) rfl (fun _ => rfl) ?_
  refine P_ld 101 (.ref 178) rfl (fun _ => rfl) ?_
  refine PK_gf 104 (.int (i32 (y1.2.2.1 227))) rfl rfl kd_178 rfl rfl rfl ?_
  refine P_ld 105 (.int (i32 1)) rfl (fun _ => rfl) ?_
  refine P_op 106 (cut ((y1.2.2.1 227) + 1)) _ rfl (fun _ => rfl) o_add ?_
  refine PK_pf (l' := [(227, cut ((y1.2.2.1 227) + 1))]) 109 (cut ((y1.2.2.1 227) + 1)) rfl rfl kd_178 rfl rfl rfl rfl rfl rfl rfl ?_
  refine P_ld 110 (.ref 178) rfl (fun _ => rfl) ?_
  refine PK_gf 113 (.ref 179) rfl rfl kd_178 rfl rfl rfl ?_
  refine P_ld 114 (.ref 178) rfl (fun _ => rfl) ?_
  refine PK_gf 117 (.int (i32 (cut ((y1.2.2.1 227) + 1)))) rfl rfl kd_178 rfl rfl rfl ?_
  refine P_ld 118 (.int (i32 v1)) rfl (fun _ => rfl) ?_
  refine PK_iast2 (a' := [(66, upI (y1.2.2.2 66) (cut ((y1.2.2.1 227) + 1)) v1)]) 119 66 (y1.2.2.2 66) rfl rfl rfl cut_r rfl rfl ?_
  refine P_ld 120 (.ref 178) rfl (fun _ => rfl) ?_
  refine PK_gf 123 (.ref 180) rfl rfl kd_178 rfl rfl rfl ?_
  refine P_ld 124 (.ref 178) rfl (fun _ => rfl) ?_
  refine PK_gf 127 (.int (i32 (cut ((y1.2.2.1 227) + 1)))) rfl rfl kd_178 rfl rfl rfl ?_
  refine P_ld 128 (.int (i32 1)) rfl (fun _ => rfl) ?_
  refine PK_iast2 (a' := [(66, upI (y1.2.2.2 66) (cut ((y1.2.2.1 227) + 1)) v1), (67, upI (y1.2.2.2 67) (cut ((y1.2.2.1 227) + 1)) 1)]) 129 67 (y1.2.2.2 67) rfl rfl rfl cut_r rfl rfl ?_
  exact P_rx0 rfl rfl (KCn_mO n3 rfl rfl ⟨(kV_i rfl cut_r), trivial⟩ ⟨(kE_ui (KCn_a n3 66) rfl q1), (kE_ui (KCn_a n3 67) rfl (l32 1 rfl)), trivial⟩)
def kf_rd_openIf (v1 : Int) (m : mR) : Option (Int × Int × mR) :=
  bnd (kf_tx_advance m) fun y4 =>
  if y4.1 = 0 then
    bnd (kf_fm_whole (-1) (mO y4.2.2 [] [(57, upI (y4.2.2.2 57) v1 (y4.2.2.1 220))])) fun y7 =>
    if y7.1 = 0 then
      bnd (kf_fm_mustFit y7.2.1 1 (mO y7.2.2 [] [(58, upI (y7.2.2.2 58) v1 y7.2.1)])) fun y10 =>
      if y10.1 = 0 then
        if y10.2.2.1 206 = 123 then
          if y10.2.2.1 227 < 8 then
            kfl_rd_openIf_90 v1 y10.2.2
          else
            bnd (kf_tx_fail 4 (y10.2.2.1 207) y10.2.2) fun y15 =>
            if y15.1 = 0 then
              kfl_rd_openIf_90 v1 y15.2.2
            else
              some (y15.1, 0, y15.2.2)
        else
          kfl_rd_openIf_90 v1 y10.2.2
      else
        some (y10.1, 0, y10.2.2)
    else
      some (y7.1, 0, y7.2.2)
  else
    some (y4.1, 0, y4.2.2)
theorem D_rd_openIf (w : wX) (m : mR) (c : Nat → Option am_C) (N D : Nat) (hm : KCn m) (v1 : Int) (q1 : R32 v1) : PC w D 140 [.ref 178, .int (i32 v1)] (khp m c, N) (QS (FX0 c N) (kf_rd_openIf v1 m)) := by
  refine Pc_of (fun D bb => ?_) D
  unfold kf_rd_openIf
  show PP bb w D pm_140 (0, [(0, .ref 178), (1, .int (i32 v1))], [], (khp (mO m [] []) c, N), 0, 0) _
  refine P_ld 1 (.ref 178) rfl (fun _ => rfl) ?_
  refine PK_gf 4 (.ref 6) rfl rfl kd_178 rfl rfl rfl ?_
  refine P_cx0 7 50 [.ref 6] [] rfl (fun _ => rfl) rfl rfl (D_tx_advance w m c N D hm) (fun y x hm e => ⟨_, rfl, hm, Or.inr ⟨x, e, rfl⟩⟩) (fun y4 n6 => ?_)
  refine P_ld 8 (.ref 178) rfl (fun _ => rfl) ?_
  refine PK_gf 11 (.ref 59) rfl rfl kd_178 rfl rfl rfl ?_
  refine PK_gf 14 (.ref 65) rfl rfl kd_59 rfl rfl rfl ?_
  refine P_ld 15 (.int (i32 v1)) rfl (fun _ => rfl) ?_
  refine P_ld 16 (.ref 178) rfl (fun _ => rfl) ?_
  refine PK_gf 19 (.ref 12) rfl rfl kd_178 rfl rfl rfl ?_
  refine PK_gf 22 (.ref 22) rfl rfl kd_12 rfl rfl rfl ?_
  refine PK_gf 25 (.int (i32 (y4.2.2.1 220))) rfl rfl kd_22 rfl rfl rfl ?_
  refine PK_iast2 (a' := [(57, upI (y4.2.2.2 57) v1 (y4.2.2.1 220))]) 26 57 (y4.2.2.2 57) rfl rfl rfl q1 rfl rfl ?_
  refine P_ld 27 (.ref 178) rfl (fun _ => rfl) ?_
  refine PK_gf 30 (.ref 181) rfl rfl kd_178 rfl rfl rfl ?_
  refine P_ld 31 (.int (i32 (-1))) rfl (fun _ => rfl) ?_
  refine P_cx1 34 92 [.ref 181, .int (i32 (-1))] [] rfl (fun _ => rfl) rfl rfl (D_fm_whole w (mO y4.2.2 [] [(57, upI (y4.2.2.2 57) v1 (y4.2.2.1 220))]) c N D (KCn_mO n6 rfl rfl trivial ⟨(kE_ui (KCn_a n6 57) rfl (KCn_i n6 220 rfl)), trivial⟩) (-1) (l32 (-1) rfl)) (fun y x hm e => ⟨_, rfl, hm, Or.inr ⟨x, e, rfl⟩⟩) (fun y7 h8 n9 => ?_)
  refine P_sto 35 [(2, .int (i32 y7.2.1)), (0, .ref 178), (1, .int (i32 v1))] rfl (fun _ => rfl) ?_
  refine P_ld 36 (.ref 178) rfl (fun _ => rfl) ?_
  refine PK_gf 39 (.ref 59) rfl rfl kd_178 rfl rfl rfl ?_
  refine PK_gf 42 (.ref 66) rfl rfl kd_59 rfl rfl rfl ?_
  refine P_ld 43 (.int (i32 v1)) rfl (fun _ => rfl) ?_
  refine P_ld 44 (.int (i32 y7.2.1)) rfl (fun _ => rfl) ?_
  refine PK_iast2 (a' := [(58, upI (y7.2.2.2 58) v1 y7.2.1)]) 45 58 (y7.2.2.2 58) rfl rfl rfl q1 rfl rfl ?_
  refine P_ld 46 (.ref 178) rfl (fun _ => rfl) ?_
  refine PK_gf 49 (.ref 181) rfl rfl kd_178 rfl rfl rfl ?_
  refine P_ld 50 (.int (i32 y7.2.1)) rfl (fun _ => rfl) ?_
  refine P_ld 51 (.int (i32 1)) rfl (fun _ => rfl) ?_
  refine P_cx0 54 126 [.ref 181, .int (i32 y7.2.1), .int (i32 1)] [] rfl (fun _ => rfl) rfl rfl (D_fm_mustFit w (mO y7.2.2 [] [(58, upI (y7.2.2.2 58) v1 y7.2.1)]) c N D (KCn_mO n9 rfl rfl trivial ⟨(kE_ui (KCn_a n9 58) rfl h8), trivial⟩) y7.2.1 1 h8 (l32 1 rfl)) (fun y x hm e => ⟨_, rfl, hm, Or.inr ⟨x, e, rfl⟩⟩) (fun y10 n12 => ?_)
  refine P_ld 55 (.ref 178) rfl (fun _ => rfl) ?_
  refine PK_gf 58 (.ref 6) rfl rfl kd_178 rfl rfl rfl ?_
  refine PK_gf 61 (.int (i32 (y10.2.2.1 206))) rfl rfl kd_6 rfl rfl rfl ?_
  refine P_ld 63 (.int (i32 123)) rfl (fun _ => rfl) ?_
  refine P_icE 90 66 rfl rfl rfl (KCn_i n12 206 rfl) (l32 123 rfl) rfl (fun h13 => ?_) (fun h13 => ?_)
  · skip
    refine P_ld 67 (.ref 178) rfl (fun _ => rfl) ?_
    refine PK_gf 70 (.int (i32 (y10.2.2.1 227))) rfl rfl kd_178 rfl rfl rfl ?_
    refine P_ld 72 (.int (i32 8)) rfl (fun _ => rfl) ?_
    refine P_icF 90 75 rfl rfl rfl (KCn_i n12 227 rfl) (l32 8 rfl) rfl (fun h14 => ?_) (fun h14 => ?_)
    · skip
      refine P_lv (b := [(0, .ref 178), (1, .int (i32 v1)), (2, .int (i32 y7.2.1))]) rfl rfl ⟨rfl, rfl, rfl, trivial⟩ ?_
      exact dg_rd_openIf_90 w c N D bb v1 q1 y10.2.2 n12 (jk [(2, y7.2.1)])
    · skip
      refine P_ld 76 (.ref 178) rfl (fun _ => rfl) ?_
      refine PK_gf 79 (.ref 6) rfl rfl kd_178 rfl rfl rfl ?_
      refine P_ld 80 (.int (i32 4)) rfl (fun _ => rfl) ?_
      refine P_ld 81 (.ref 178) rfl (fun _ => rfl) ?_
      refine PK_gf 84 (.ref 6) rfl rfl kd_178 rfl rfl rfl ?_
      refine PK_gf 87 (.int (i32 (y10.2.2.1 207))) rfl rfl kd_6 rfl rfl rfl ?_
      refine P_cx0 90 51 [.ref 6, .int (i32 4), .int (i32 (y10.2.2.1 207))] [] rfl (fun _ => rfl) rfl rfl (D_tx_fail w y10.2.2 c N D n12 4 (y10.2.2.1 207) (l32 4 rfl) (KCn_i n12 207 rfl)) (fun y x hm e => ⟨_, rfl, hm, Or.inr ⟨x, e, rfl⟩⟩) (fun y15 n17 => ?_)
      refine P_lv (b := [(0, .ref 178), (1, .int (i32 v1)), (2, .int (i32 y7.2.1))]) rfl rfl ⟨rfl, rfl, rfl, trivial⟩ ?_
      exact dg_rd_openIf_90 w c N D bb v1 q1 y15.2.2 n17 (jk [(2, y7.2.1)])
  · skip
    refine P_lv (b := [(0, .ref 178), (1, .int (i32 v1)), (2, .int (i32 y7.2.1))]) rfl rfl ⟨rfl, rfl, rfl, trivial⟩ ?_
    exact dg_rd_openIf_90 w c N D bb v1 q1 y10.2.2 n12 (jk [(2, y7.2.1)])
def kf_rd_isStatement (m : mR) : Option Int :=
  if m.1 206 = 256 then
    some 1
  else
    if m.1 206 = 324 then
      some 1
    else
      if m.1 206 = 325 then
        some 1
      else
        if m.1 206 = 326 then
          some 1
        else
          if m.1 206 = 327 then
            some 1
          else
            if m.1 206 = 328 then
              some 1
            else
              some 0
theorem D_rd_isStatement (w : wX) (m : mR) (c : Nat → Option am_C) (N D : Nat) (hm : KCn m) : PC w D 121 [.ref 178] (khp m c, N) (QS (FP1 (khp m c, N)) (kf_rd_isStatement m)) := by
  refine Pc_of (fun D bb => ?_) D
  unfold kf_rd_isStatement
  show PP bb w D pm_121 (0, [(0, .ref 178)], [], (khp (mO m [] []) c, N), 0, 0) _
  refine P_ld 1 (.ref 178) rfl (fun _ => rfl) ?_
  refine PK_gf 4 (.ref 6) rfl rfl kd_178 rfl rfl rfl ?_
  refine PK_gf 7 (.int (i32 (m.1 206))) rfl rfl kd_6 rfl rfl rfl ?_
  refine P_cs (fun h1 => ?_) (fun h1 => ?_)
  · skip
    refine P_cast 256 h1 ?_
    refine P_pop 64 rfl (fun _ => rfl) ?_
    refine P_ld 65 (.int (i32 1)) rfl (fun _ => rfl) ?_
    exact P_rp1 rfl (l32 1 rfl)
  · skip
    refine P_cs (fun h2 => ?_) (fun h2 => ?_)
    · skip
      refine P_cast 324 h2 ?_
      refine P_pop 64 rfl (fun _ => rfl) ?_
      refine P_ld 65 (.int (i32 1)) rfl (fun _ => rfl) ?_
      exact P_rp1 rfl (l32 1 rfl)
    · skip
      refine P_cs (fun h3 => ?_) (fun h3 => ?_)
      · skip
        refine P_cast 325 h3 ?_
        refine P_pop 64 rfl (fun _ => rfl) ?_
        refine P_ld 65 (.int (i32 1)) rfl (fun _ => rfl) ?_
        exact P_rp1 rfl (l32 1 rfl)
      · skip
        refine P_cs (fun h4 => ?_) (fun h4 => ?_)
        · skip
          refine P_cast 326 h4 ?_
          refine P_pop 64 rfl (fun _ => rfl) ?_
          refine P_ld 65 (.int (i32 1)) rfl (fun _ => rfl) ?_
          exact P_rp1 rfl (l32 1 rfl)
        · skip
          refine P_cs (fun h5 => ?_) (fun h5 => ?_)
          · skip
            refine P_cast 327 h5 ?_
            refine P_pop 64 rfl (fun _ => rfl) ?_
            refine P_ld 65 (.int (i32 1)) rfl (fun _ => rfl) ?_
            exact P_rp1 rfl (l32 1 rfl)
          · skip
            refine P_cs (fun h6 => ?_) (fun h6 => ?_)
            · skip
              refine P_cast 328 h6 ?_
              refine P_pop 64 rfl (fun _ => rfl) ?_
              refine P_ld 65 (.int (i32 1)) rfl (fun _ => rfl) ?_
              exact P_rp1 rfl (l32 1 rfl)
            · skip
              refine P_lkd 66 rfl rfl (KCn_i hm 206 rfl) (by simp [Op.lookupswitch.offset, h1, Ne.symm h1, h2, Ne.symm h2, h3, Ne.symm h3, h4, Ne.symm h4, h5, Ne.symm h5, h6, Ne.symm h6]) ?_
              refine P_ld 67 (.int (i32 0)) rfl (fun _ => rfl) ?_
              exact P_rp1 rfl (l32 0 rfl)
def kfl_rd_closeBlock_33 (m : mR) : Option (Int × Int × mR) :=
  some (0, 0, (mO m [(227, cut ((m.1 227) - 1))] []))
theorem dg_rd_closeBlock_33 (w : wX) (c : Nat → Option am_C) (N D : Nat) (bb : Nat) (m : mR) (hm : KCn m) (j : Nat → Int) : PP bb w D pm_138 (33, [(0, .ref 178)], [], (khp m c, N), 0, 0) (QS (FX0 c N) (kfl_rd_closeBlock_33 m)) := by
  unfold kfl_rd_closeBlock_33
  show PP bb w D pm_138 (33, [(0, .ref 178)], [], (khp (mO m [] []) c, N), 0, 0) _
  refine P_ld 34 (.ref 178) rfl (fun _ => rfl) ?_
  refine P_ld 35 (.ref 178) rfl (fun _ => rfl) ?_
  refine PK_gf 38 (.int (i32 (m.1 227))) rfl rfl kd_178 rfl rfl rfl ?_
  refine P_ld 39 (.int (i32 1)) rfl (fun _ => rfl) ?_
  refine P_op 40 (cut ((m.1 227) - 1)) _ rfl (fun _ => rfl) o_sub ?_
  refine PK_pf (l' := [(227, cut ((m.1 227) - 1))]) 43 (cut ((m.1 227) - 1)) rfl rfl kd_178 rfl rfl rfl rfl rfl rfl rfl ?_
  exact P_rx0 rfl rfl (KCn_mO hm rfl rfl ⟨(kV_i rfl cut_r), trivial⟩ trivial)
def kf_rd_closeBlock (m : mR) : Option (Int × Int × mR) :=
  bnd (kf_tx_advance m) fun y1 =>
  if y1.1 = 0 then
    if (y1.2.2.2 67) (y1.2.2.1 227) = 1 then
      if y1.2.2.1 206 = 322 then
        bnd (kf_tx_advance y1.2.2) fun y6 =>
        if y6.1 = 0 then
          bnd (kf_tx_expect 123 y6.2.2) fun y9 =>
          if y9.1 = 0 then
            some (0, 0, (mO y9.2.2 [] [(67, upI (y9.2.2.2 67) (y9.2.2.1 227) 0)]))
          else
            some (y9.1, 0, y9.2.2)
        else
          some (y6.1, 0, y6.2.2)
      else
        kfl_rd_closeBlock_33 y1.2.2
    else
      kfl_rd_closeBlock_33 y1.2.2
  else
    some (y1.1, 0, y1.2.2)
theorem D_rd_closeBlock (w : wX) (m : mR) (c : Nat → Option am_C) (N D : Nat) (hm : KCn m) : PC w D 138 [.ref 178] (khp m c, N) (QS (FX0 c N) (kf_rd_closeBlock m)) := by
  refine Pc_of (fun D bb => ?_) D
  unfold kf_rd_closeBlock
  show PP bb w D pm_138 (0, [(0, .ref 178)], [], (khp (mO m [] []) c, N), 0, 0) _
  refine P_ld 1 (.ref 178) rfl (fun _ => rfl) ?_
  refine PK_gf 4 (.ref 6) rfl rfl kd_178 rfl rfl rfl ?_
  refine P_cx0 7 50 [.ref 6] [] rfl (fun _ => rfl) rfl rfl (D_tx_advance w m c N D hm) (fun y x hm e => ⟨_, rfl, hm, Or.inr ⟨x, e, rfl⟩⟩) (fun y1 n3 => ?_)
  refine P_ld 8 (.ref 178) rfl (fun _ => rfl) ?_
  refine PK_gf 11 (.ref 180) rfl rfl kd_178 rfl rfl rfl ?_
  refine P_ld 12 (.ref 178) rfl (fun _ => rfl) ?_
  refine PK_gf 15 (.int (i32 (y1.2.2.1 227))) rfl rfl kd_178 rfl rfl rfl ?_
  refine PK_iald2 16 67 (y1.2.2.2 67) rfl rfl rfl (KCn_i n3 227 rfl) rfl ?_
  refine P_ld 17 (.int (i32 1)) rfl (fun _ => rfl) ?_
  refine P_icE 33 20 rfl rfl rfl (kE_i (KCn_a n3 67) rfl _) (l32 1 rfl) rfl (fun h4 => ?_) (fun h4 => ?_)
  · skip
    refine P_ld 21 (.ref 178) rfl (fun _ => rfl) ?_
    refine PK_gf 24 (.ref 6) rfl rfl kd_178 rfl rfl rfl ?_
    refine PK_gf 27 (.int (i32 (y1.2.2.1 206))) rfl rfl kd_6 rfl rfl rfl ?_
    refine P_ld 30 (.int (i32 322)) rfl (fun _ => rfl) ?_
    refine P_icF 44 33 rfl rfl rfl (KCn_i n3 206 rfl) (l32 322 rfl) rfl (fun h5 => ?_) (fun h5 => ?_)
    · skip
      refine P_ld 45 (.ref 178) rfl (fun _ => rfl) ?_
      refine PK_gf 48 (.ref 6) rfl rfl kd_178 rfl rfl rfl ?_
      refine P_cx0 51 50 [.ref 6] [] rfl (fun _ => rfl) rfl rfl (D_tx_advance w y1.2.2 c N D n3) (fun y x hm e => ⟨_, rfl, hm, Or.inr ⟨x, e, rfl⟩⟩) (fun y6 n8 => ?_)
      refine P_ld 52 (.ref 178) rfl (fun _ => rfl) ?_
      refine PK_gf 55 (.ref 6) rfl rfl kd_178 rfl rfl rfl ?_
      refine P_ld 57 (.int (i32 123)) rfl (fun _ => rfl) ?_
      refine P_cx0 60 78 [.ref 6, .int (i32 123)] [] rfl (fun _ => rfl) rfl rfl (D_tx_expect w y6.2.2 c N D n8 123 (l32 123 rfl)) (fun y x hm e => ⟨_, rfl, hm, Or.inr ⟨x, e, rfl⟩⟩) (fun y9 n11 => ?_)
      refine P_ld 61 (.ref 178) rfl (fun _ => rfl) ?_
      refine PK_gf 64 (.ref 180) rfl rfl kd_178 rfl rfl rfl ?_
      refine P_ld 65 (.ref 178) rfl (fun _ => rfl) ?_
      refine PK_gf 68 (.int (i32 (y9.2.2.1 227))) rfl rfl kd_178 rfl rfl rfl ?_
      refine P_ld 69 (.int (i32 0)) rfl (fun _ => rfl) ?_
      refine PK_iast2 (a' := [(67, upI (y9.2.2.2 67) (y9.2.2.1 227) 0)]) 70 67 (y9.2.2.2 67) rfl rfl rfl (KCn_i n11 227 rfl) rfl rfl ?_
      exact P_rx0 rfl rfl (KCn_mO n11 rfl rfl trivial ⟨(kE_ui (KCn_a n11 67) rfl (l32 0 rfl)), trivial⟩)
    · skip
      exact dg_rd_closeBlock_33 w c N D bb y1.2.2 n3 (jk [])
  · skip
    exact dg_rd_closeBlock_33 w c N D bb y1.2.2 n3 (jk [])
def kfl_rd_inBlock_121 (v1 : Int) (v2 : Int) (u0 : Int) (m : mR) : Option (Int × Int × mR) :=
  bnd (kf_sp_add u0 ((m.2 66) (m.1 227)) ((m.2 67) (m.1 227)) m) fun y1 =>
  if v1 = 0 then
    if v2 = 0 then
      bnd (kf_rd_statement (-1) y1.2) fun y6 =>
      if y6.1 = 0 then
        some (0, 0, (mO y6.2.2 [] [(56, upI (y6.2.2.2 56) y1.1 y6.2.1)]))
      else
        some (y6.1, 0, y6.2.2)
    else
      bnd (kf_rd_apply y1.1 y1.2) fun y9 =>
      if y9.1 = 0 then
        some (0, 0, y9.2.2)
      else
        some (y9.1, 0, y9.2.2)
  else
    bnd (kf_rd_openIf y1.1 y1.2) fun y12 =>
    if y12.1 = 0 then
      some (0, 0, y12.2.2)
    else
      some (y12.1, 0, y12.2.2)
theorem dg_rd_inBlock_121 (w : wX) (c : Nat → Option am_C) (N D : Nat) (bb : Nat) (v1 : Int) (v2 : Int) (u0 : Int) (q1 : R32 v1) (q2 : R32 v2) (r0 : R32 u0) (m : mR) (hm : KCn m) (j : Nat → Int) : PP bb w D pm_137 (121, [(0, .ref 178), (1, .int (i32 v1)), (2, .int (i32 v2))], [.int (i32 u0)], (khp m c, N), 0, 0) (QS (FX0 c N) (kfl_rd_inBlock_121 v1 v2 u0 m)) := by
  unfold kfl_rd_inBlock_121
  show PP bb w D pm_137 (121, [(0, .ref 178), (1, .int (i32 v1)), (2, .int (i32 v2))], [.int (i32 u0)], (khp (mO m [] []) c, N), 0, 0) _
  refine P_sto 122 [(3, .int (i32 u0)), (0, .ref 178), (1, .int (i32 v1)), (2, .int (i32 v2))] rfl (fun _ => rfl) ?_
  refine P_ld 123 (.ref 178) rfl (fun _ => rfl) ?_
  refine PK_gf 126 (.ref 59) rfl rfl kd_178 rfl rfl rfl ?_
  refine P_ld 127 (.int (i32 u0)) rfl (fun _ => rfl) ?_
  refine P_ld 128 (.ref 178) rfl (fun _ => rfl) ?_
  refine PK_gf 131 (.ref 179) rfl rfl kd_178 rfl rfl rfl ?_
  refine P_ld 132 (.ref 178) rfl (fun _ => rfl) ?_
  refine PK_gf 135 (.int (i32 (m.1 227))) rfl rfl kd_178 rfl rfl rfl ?_
  refine PK_iald2 136 66 (m.2 66) rfl rfl rfl (KCn_i hm 227 rfl) rfl ?_
  refine P_ld 137 (.ref 178) rfl (fun _ => rfl) ?_
  refine PK_gf 140 (.ref 180) rfl rfl kd_178 rfl rfl rfl ?_
  refine P_ld 141 (.ref 178) rfl (fun _ => rfl) ?_
  refine PK_gf 144 (.int (i32 (m.1 227))) rfl rfl kd_178 rfl rfl rfl ?_
  refine PK_iald2 145 67 (m.2 67) rfl rfl rfl (KCn_i hm 227 rfl) rfl ?_
  refine P_ck1 148 139 [.ref 59, .int (i32 u0), .int (i32 ((m.2 66) (m.1 227))), .int (i32 ((m.2 67) (m.1 227)))] [] rfl (fun _ => rfl) rfl (D_sp_add w m c N D hm u0 ((m.2 66) (m.1 227)) ((m.2 67) (m.1 227)) r0 (kE_i (KCn_a hm 66) rfl _) (kE_i (KCn_a hm 67) rfl _)) (fun y1 h2 n3 => ?_)
  refine P_sto 150 [(4, .int (i32 y1.1)), (3, .int (i32 u0)), (0, .ref 178), (1, .int (i32 v1)), (2, .int (i32 v2))] rfl (fun _ => rfl) ?_
  refine P_ld 151 (.int (i32 v1)) rfl (fun _ => rfl) ?_
  refine P_ifF 163 154 rfl rfl rfl q1 rfl (fun h4 => ?_) (fun h4 => ?_)
  · skip
    refine P_ld 164 (.int (i32 v2)) rfl (fun _ => rfl) ?_
    refine P_ifF 176 167 rfl rfl rfl q2 rfl (fun h5 => ?_) (fun h5 => ?_)
    · skip
      refine P_ld 177 (.ref 178) rfl (fun _ => rfl) ?_
      refine PK_gf 180 (.ref 59) rfl rfl kd_178 rfl rfl rfl ?_
      refine PK_gf 183 (.ref 64) rfl rfl kd_59 rfl rfl rfl ?_
      refine P_ld 185 (.int (i32 y1.1)) rfl (fun _ => rfl) ?_
      refine P_ld 186 (.ref 178) rfl (fun _ => rfl) ?_
      refine P_ld 187 (.int (i32 (-1))) rfl (fun _ => rfl) ?_
      refine P_cx1 190 122 [.ref 178, .int (i32 (-1))] [.int (i32 y1.1), .ref 64] rfl (fun _ => rfl) rfl rfl (D_rd_statement w y1.2 c N D n3 (-1) (l32 (-1) rfl)) (fun y x hm e => ⟨_, rfl, hm, Or.inr ⟨x, e, rfl⟩⟩) (fun y6 h7 n8 => ?_)
      refine PK_iast2 (a' := [(56, upI (y6.2.2.2 56) y1.1 y6.2.1)]) 191 56 (y6.2.2.2 56) rfl rfl rfl h2 rfl rfl ?_
      exact P_rx0 rfl rfl (KCn_mO n8 rfl rfl trivial ⟨(kE_ui (KCn_a n8 56) rfl h7), trivial⟩)
    · skip
      refine P_ld 168 (.ref 178) rfl (fun _ => rfl) ?_
      refine P_ld 170 (.int (i32 y1.1)) rfl (fun _ => rfl) ?_
      refine P_cx0 173 141 [.ref 178, .int (i32 y1.1)] [] rfl (fun _ => rfl) rfl rfl (D_rd_apply w y1.2 c N D n3 y1.1 h2) (fun y x hm e => ⟨_, rfl, hm, Or.inr ⟨x, e, rfl⟩⟩) (fun y9 n11 => ?_)
      refine P_goto 191 rfl (fun _ => rfl) ?_
      exact P_rx0 rfl rfl n11
  · skip
    refine P_ld 155 (.ref 178) rfl (fun _ => rfl) ?_
    refine P_ld 157 (.int (i32 y1.1)) rfl (fun _ => rfl) ?_
    refine P_cx0 160 140 [.ref 178, .int (i32 y1.1)] [] rfl (fun _ => rfl) rfl rfl (D_rd_openIf w y1.2 c N D n3 y1.1 h2) (fun y x hm e => ⟨_, rfl, hm, Or.inr ⟨x, e, rfl⟩⟩) (fun y12 n14 => ?_)
    refine P_goto 191 rfl (fun _ => rfl) ?_
    exact P_rx0 rfl rfl n14
def kfl_rd_inBlock_104 (v1 : Int) (v2 : Int) (m : mR) : Option (Int × Int × mR) :=
  if v1 = 0 then
    if v2 = 0 then
      kfl_rd_inBlock_121 v1 v2 0 m
    else
      kfl_rd_inBlock_121 v1 v2 2 m
  else
    kfl_rd_inBlock_121 v1 v2 1 m
theorem dg_rd_inBlock_104 (w : wX) (c : Nat → Option am_C) (N D : Nat) (bb : Nat) (v1 : Int) (v2 : Int) (q1 : R32 v1) (q2 : R32 v2) (m : mR) (hm : KCn m) (j : Nat → Int) : PP bb w D pm_137 (104, [(0, .ref 178), (1, .int (i32 v1)), (2, .int (i32 v2))], [], (khp m c, N), 0, 0) (QS (FX0 c N) (kfl_rd_inBlock_104 v1 v2 m)) := by
  unfold kfl_rd_inBlock_104
  show PP bb w D pm_137 (104, [(0, .ref 178), (1, .int (i32 v1)), (2, .int (i32 v2))], [], (khp (mO m [] []) c, N), 0, 0) _
  refine P_ld 105 (.int (i32 v1)) rfl (fun _ => rfl) ?_
  refine P_ifF 112 108 rfl rfl rfl q1 rfl (fun h15 => ?_) (fun h15 => ?_)
  · skip
    refine P_ld 113 (.int (i32 v2)) rfl (fun _ => rfl) ?_
    refine P_ifF 120 116 rfl rfl rfl q2 rfl (fun h16 => ?_) (fun h16 => ?_)
    · skip
      refine P_ld 121 (.int (i32 0)) rfl (fun _ => rfl) ?_
      exact dg_rd_inBlock_121 w c N D bb v1 v2 0 q1 q2 (l32 0 rfl) m hm (jk [])
    · skip
      refine P_ld 117 (.int (i32 2)) rfl (fun _ => rfl) ?_
      refine P_goto 121 rfl (fun _ => rfl) ?_
      exact dg_rd_inBlock_121 w c N D bb v1 v2 2 q1 q2 (l32 2 rfl) m hm (jk [])
  · skip
    refine P_ld 109 (.int (i32 1)) rfl (fun _ => rfl) ?_
    refine P_goto 121 rfl (fun _ => rfl) ?_
    exact dg_rd_inBlock_121 w c N D bb v1 v2 1 q1 q2 (l32 1 rfl) m hm (jk [])
def kfl_rd_inBlock_77 (v1 : Int) (v2 : Int) (m : mR) : Option (Int × Int × mR) :=
  if m.1 225 < 48 then
    kfl_rd_inBlock_104 v1 v2 m
  else
    bnd (kf_tx_fail 4 (m.1 207) m) fun y18 =>
    if y18.1 = 0 then
      kfl_rd_inBlock_104 v1 v2 y18.2.2
    else
      some (y18.1, 0, y18.2.2)
theorem dg_rd_inBlock_77 (w : wX) (c : Nat → Option am_C) (N D : Nat) (bb : Nat) (v1 : Int) (v2 : Int) (q1 : R32 v1) (q2 : R32 v2) (m : mR) (hm : KCn m) (j : Nat → Int) : PP bb w D pm_137 (77, [(0, .ref 178), (1, .int (i32 v1)), (2, .int (i32 v2))], [], (khp m c, N), 0, 0) (QS (FX0 c N) (kfl_rd_inBlock_77 v1 v2 m)) := by
  unfold kfl_rd_inBlock_77
  show PP bb w D pm_137 (77, [(0, .ref 178), (1, .int (i32 v1)), (2, .int (i32 v2))], [], (khp (mO m [] []) c, N), 0, 0) _
  refine P_ld 78 (.ref 178) rfl (fun _ => rfl) ?_
  refine PK_gf 81 (.ref 59) rfl rfl kd_178 rfl rfl rfl ?_
  refine PK_gf 84 (.int (i32 (m.1 225))) rfl rfl kd_59 rfl rfl rfl ?_
  refine P_ld 86 (.int (i32 48)) rfl (fun _ => rfl) ?_
  refine P_icF 104 89 rfl rfl rfl (KCn_i hm 225 rfl) (l32 48 rfl) rfl (fun h17 => ?_) (fun h17 => ?_)
  · skip
    exact dg_rd_inBlock_104 w c N D bb v1 v2 q1 q2 m hm (jk [])
  · skip
    refine P_ld 90 (.ref 178) rfl (fun _ => rfl) ?_
    refine PK_gf 93 (.ref 6) rfl rfl kd_178 rfl rfl rfl ?_
    refine P_ld 94 (.int (i32 4)) rfl (fun _ => rfl) ?_
    refine P_ld 95 (.ref 178) rfl (fun _ => rfl) ?_
    refine PK_gf 98 (.ref 6) rfl rfl kd_178 rfl rfl rfl ?_
    refine PK_gf 101 (.int (i32 (m.1 207))) rfl rfl kd_6 rfl rfl rfl ?_
    refine P_cx0 104 51 [.ref 6, .int (i32 4), .int (i32 (m.1 207))] [] rfl (fun _ => rfl) rfl rfl (D_tx_fail w m c N D hm 4 (m.1 207) (l32 4 rfl) (KCn_i hm 207 rfl)) (fun y x hm e => ⟨_, rfl, hm, Or.inr ⟨x, e, rfl⟩⟩) (fun y18 n20 => ?_)
    exact dg_rd_inBlock_104 w c N D bb v1 v2 q1 q2 y18.2.2 n20 (jk [])
def kfl_rd_inBlock_37 (v1 : Int) (u0 : Int) (m : mR) : Option (Int × Int × mR) :=
  if m.1 206 = 125 then
    bnd (kf_rd_closeBlock m) fun y31 =>
    if y31.1 = 0 then
      some (0, 0, y31.2.2)
    else
      some (y31.1, 0, y31.2.2)
  else
    if v1 = 0 then
      if u0 = 0 then
        bnd (kf_rd_isStatement m) fun y24 =>
        if y24 = 0 then
          bnd (kf_tx_refuse m) fun y28 =>
          if y28.1 = 0 then
            kfl_rd_inBlock_77 v1 u0 y28.2.2
          else
            some (y28.1, 0, y28.2.2)
        else
          kfl_rd_inBlock_77 v1 u0 m
      else
        kfl_rd_inBlock_77 v1 u0 m
    else
      kfl_rd_inBlock_77 v1 u0 m
theorem dg_rd_inBlock_37 (w : wX) (c : Nat → Option am_C) (N D : Nat) (bb : Nat) (v1 : Int) (u0 : Int) (q1 : R32 v1) (r0 : R32 u0) (m : mR) (hm : KCn m) (j : Nat → Int) : PP bb w D pm_137 (37, [(0, .ref 178), (1, .int (i32 v1))], [.int (i32 u0)], (khp m c, N), 0, 0) (QS (FX0 c N) (kfl_rd_inBlock_37 v1 u0 m)) := by
  unfold kfl_rd_inBlock_37
  show PP bb w D pm_137 (37, [(0, .ref 178), (1, .int (i32 v1))], [.int (i32 u0)], (khp (mO m [] []) c, N), 0, 0) _
  refine P_sto 38 [(2, .int (i32 u0)), (0, .ref 178), (1, .int (i32 v1))] rfl (fun _ => rfl) ?_
  refine P_ld 39 (.ref 178) rfl (fun _ => rfl) ?_
  refine PK_gf 42 (.ref 6) rfl rfl kd_178 rfl rfl rfl ?_
  refine PK_gf 45 (.int (i32 (m.1 206))) rfl rfl kd_6 rfl rfl rfl ?_
  refine P_ld 47 (.int (i32 125)) rfl (fun _ => rfl) ?_
  refine P_icE 55 50 rfl rfl rfl (KCn_i hm 206 rfl) (l32 125 rfl) rfl (fun h21 => ?_) (fun h21 => ?_)
  · skip
    refine P_ld 51 (.ref 178) rfl (fun _ => rfl) ?_
    refine P_cx0 54 138 [.ref 178] [] rfl (fun _ => rfl) rfl rfl (D_rd_closeBlock w m c N D hm) (fun y x hm e => ⟨_, rfl, hm, Or.inr ⟨x, e, rfl⟩⟩) (fun y31 n33 => ?_)
    exact P_rx0 rfl rfl n33
  · skip
    refine P_ld 56 (.int (i32 v1)) rfl (fun _ => rfl) ?_
    refine P_ifE 77 59 rfl rfl rfl q1 rfl (fun h22 => ?_) (fun h22 => ?_)
    · skip
      refine P_ld 60 (.int (i32 u0)) rfl (fun _ => rfl) ?_
      refine P_ifE 77 63 rfl rfl rfl r0 rfl (fun h23 => ?_) (fun h23 => ?_)
      · skip
        refine P_ld 64 (.ref 178) rfl (fun _ => rfl) ?_
        refine P_cp1 67 121 [.ref 178] [] rfl (fun _ => rfl) rfl (D_rd_isStatement w m c N D hm) (fun y24 h25 => ?_)
        refine P_ifE 77 70 rfl rfl rfl h25 rfl (fun h27 => ?_) (fun h27 => ?_)
        · skip
          refine P_ld 71 (.ref 178) rfl (fun _ => rfl) ?_
          refine PK_gf 74 (.ref 6) rfl rfl kd_178 rfl rfl rfl ?_
          refine P_cx0 77 76 [.ref 6] [] rfl (fun _ => rfl) rfl rfl (D_tx_refuse w m c N D hm) (fun y x hm e => ⟨_, rfl, hm, Or.inr ⟨x, e, rfl⟩⟩) (fun y28 n30 => ?_)
          refine P_lv (b := [(0, .ref 178), (1, .int (i32 v1)), (2, .int (i32 u0))]) rfl rfl ⟨rfl, rfl, rfl, trivial⟩ ?_
          exact dg_rd_inBlock_77 w c N D bb v1 u0 q1 r0 y28.2.2 n30 (jk [])
        · skip
          refine P_lv (b := [(0, .ref 178), (1, .int (i32 v1)), (2, .int (i32 u0))]) rfl rfl ⟨rfl, rfl, rfl, trivial⟩ ?_
          exact dg_rd_inBlock_77 w c N D bb v1 u0 q1 r0 m hm (jk [])
      · skip
        refine P_lv (b := [(0, .ref 178), (1, .int (i32 v1)), (2, .int (i32 u0))]) rfl rfl ⟨rfl, rfl, rfl, trivial⟩ ?_
        exact dg_rd_inBlock_77 w c N D bb v1 u0 q1 r0 m hm (jk [])
    · skip
      refine P_lv (b := [(0, .ref 178), (1, .int (i32 v1)), (2, .int (i32 u0))]) rfl rfl ⟨rfl, rfl, rfl, trivial⟩ ?_
      exact dg_rd_inBlock_77 w c N D bb v1 u0 q1 r0 m hm (jk [])
def kfl_rd_inBlock_18 (u0 : Int) (m : mR) : Option (Int × Int × mR) :=
  if m.1 206 = 320 then
    kfl_rd_inBlock_37 u0 1 m
  else
    kfl_rd_inBlock_37 u0 0 m
theorem dg_rd_inBlock_18 (w : wX) (c : Nat → Option am_C) (N D : Nat) (bb : Nat) (u0 : Int) (r0 : R32 u0) (m : mR) (hm : KCn m) (j : Nat → Int) : PP bb w D pm_137 (18, [(0, .ref 178)], [.int (i32 u0)], (khp m c, N), 0, 0) (QS (FX0 c N) (kfl_rd_inBlock_18 u0 m)) := by
  unfold kfl_rd_inBlock_18
  show PP bb w D pm_137 (18, [(0, .ref 178)], [.int (i32 u0)], (khp (mO m [] []) c, N), 0, 0) _
  refine P_sto 19 [(1, .int (i32 u0)), (0, .ref 178)] rfl (fun _ => rfl) ?_
  refine P_ld 20 (.ref 178) rfl (fun _ => rfl) ?_
  refine PK_gf 23 (.ref 6) rfl rfl kd_178 rfl rfl rfl ?_
  refine PK_gf 26 (.int (i32 (m.1 206))) rfl rfl kd_6 rfl rfl rfl ?_
  refine P_ld 29 (.int (i32 320)) rfl (fun _ => rfl) ?_
  refine P_icE 36 32 rfl rfl rfl (KCn_i hm 206 rfl) (l32 320 rfl) rfl (fun h34 => ?_) (fun h34 => ?_)
  · skip
    refine P_ld 33 (.int (i32 1)) rfl (fun _ => rfl) ?_
    refine P_goto 37 rfl (fun _ => rfl) ?_
    refine P_lv (b := [(0, .ref 178), (1, .int (i32 u0))]) rfl rfl ⟨rfl, rfl, trivial⟩ ?_
    exact dg_rd_inBlock_37 w c N D bb u0 1 r0 (l32 1 rfl) m hm (jk [])
  · skip
    refine P_ld 37 (.int (i32 0)) rfl (fun _ => rfl) ?_
    refine P_lv (b := [(0, .ref 178), (1, .int (i32 u0))]) rfl rfl ⟨rfl, rfl, trivial⟩ ?_
    exact dg_rd_inBlock_37 w c N D bb u0 0 r0 (l32 0 rfl) m hm (jk [])
def kf_rd_inBlock (m : mR) : Option (Int × Int × mR) :=
  if m.1 206 = 321 then
    kfl_rd_inBlock_18 1 m
  else
    kfl_rd_inBlock_18 0 m
theorem D_rd_inBlock (w : wX) (m : mR) (c : Nat → Option am_C) (N D : Nat) (hm : KCn m) : PC w D 137 [.ref 178] (khp m c, N) (QS (FX0 c N) (kf_rd_inBlock m)) := by
  refine Pc_of (fun D bb => ?_) D
  unfold kf_rd_inBlock
  show PP bb w D pm_137 (0, [(0, .ref 178)], [], (khp (mO m [] []) c, N), 0, 0) _
  refine P_ld 1 (.ref 178) rfl (fun _ => rfl) ?_
  refine PK_gf 4 (.ref 6) rfl rfl kd_178 rfl rfl rfl ?_
  refine PK_gf 7 (.int (i32 (m.1 206))) rfl rfl kd_6 rfl rfl rfl ?_
  refine P_ld 10 (.int (i32 321)) rfl (fun _ => rfl) ?_
  refine P_icE 17 13 rfl rfl rfl (KCn_i hm 206 rfl) (l32 321 rfl) rfl (fun h35 => ?_) (fun h35 => ?_)
  · skip
    refine P_ld 14 (.int (i32 1)) rfl (fun _ => rfl) ?_
    refine P_goto 18 rfl (fun _ => rfl) ?_
    exact dg_rd_inBlock_18 w c N D bb 1 (l32 1 rfl) m hm (jk [])
  · skip
    refine P_ld 18 (.int (i32 0)) rfl (fun _ => rfl) ?_
    exact dg_rd_inBlock_18 w c N D bb 0 (l32 0 rfl) m hm (jk [])
def kfl_tx_makeNew_45 (v1 : Int) (v2 : Int) (m : mR) : Option (Int × Int × mR) :=
  bnd (kf_tx_makeName v1 v2 m) fun y1 =>
  bnd (kf_tx_advance y1.2) fun y4 =>
  if y4.1 = 0 then
    some (0, 0, y4.2.2)
  else
    some (y4.1, 0, y4.2.2)
theorem dg_tx_makeNew_45 (w : wX) (c : Nat → Option am_C) (N D : Nat) (bb : Nat) (v1 : Int) (v2 : Int) (q1 : R32 v1) (q2 : R32 v2) (m : mR) (hm : KCn m) (j : Nat → Int) : PP bb w D pm_75 (45, [(0, .ref 6), (1, .int (i32 v1)), (2, .int (i32 v2)), (3, .int (i32 (j 3)))], [], (khp m c, N), 0, 0) (QS (FX0 c N) (kfl_tx_makeNew_45 v1 v2 m)) := by
  unfold kfl_tx_makeNew_45
  show PP bb w D pm_75 (45, [(0, .ref 6), (1, .int (i32 v1)), (2, .int (i32 v2)), (3, .int (i32 (j 3)))], [], (khp (mO m [] []) c, N), 0, 0) _
  refine P_ld 46 (.ref 6) rfl (fun _ => rfl) ?_
  refine P_ld 47 (.int (i32 v1)) rfl (fun _ => rfl) ?_
  refine P_ld 48 (.int (i32 v2)) rfl (fun _ => rfl) ?_
  refine P_ck0 51 49 [.ref 6, .int (i32 v1), .int (i32 v2)] [] rfl (fun _ => rfl) rfl (D_tx_makeName w m c N D hm v1 v2 q1 q2) (fun y1 n3 => ?_)
  refine P_ld 52 (.ref 6) rfl (fun _ => rfl) ?_
  refine P_cx0 55 50 [.ref 6] [] rfl (fun _ => rfl) rfl rfl (D_tx_advance w y1.2 c N D n3) (fun y x hm e => ⟨_, rfl, hm, Or.inr ⟨x, e, rfl⟩⟩) (fun y4 n6 => ?_)
  exact P_rx0 rfl rfl n6
def kfl_tx_makeNew_28 (v1 : Int) (v2 : Int) (m : mR) : Option (Int × Int × mR) :=
  bnd (kf_tx_find m) fun y7 =>
  if y7 = (-1) then
    kfl_tx_makeNew_45 v1 v2 m
  else
    bnd (kf_tx_fail 3 (m.1 207) m) fun y11 =>
    if y11.1 = 0 then
      kfl_tx_makeNew_45 v1 v2 y11.2.2
    else
      some (y11.1, 0, y11.2.2)
theorem dg_tx_makeNew_28 (w : wX) (c : Nat → Option am_C) (N D : Nat) (bb : Nat) (v1 : Int) (v2 : Int) (q1 : R32 v1) (q2 : R32 v2) (m : mR) (hm : KCn m) (j : Nat → Int) : PP bb w D pm_75 (28, [(0, .ref 6), (1, .int (i32 v1)), (2, .int (i32 v2)), (3, .int (i32 (j 3)))], [], (khp m c, N), 0, 0) (QS (FX0 c N) (kfl_tx_makeNew_28 v1 v2 m)) := by
  unfold kfl_tx_makeNew_28
  show PP bb w D pm_75 (28, [(0, .ref 6), (1, .int (i32 v1)), (2, .int (i32 v2)), (3, .int (i32 (j 3)))], [], (khp (mO m [] []) c, N), 0, 0) _
  refine P_ld 29 (.ref 6) rfl (fun _ => rfl) ?_
  refine P_cp1 32 77 [.ref 6] [] rfl (fun _ => rfl) rfl (D_tx_find w m c N D hm) (fun y7 h8 => ?_)
  refine P_ld 33 (.int (i32 (-1))) rfl (fun _ => rfl) ?_
  refine P_icF 45 36 rfl rfl rfl h8 (l32 (-1) rfl) rfl (fun h10 => ?_) (fun h10 => ?_)
  · skip
    exact dg_tx_makeNew_45 w c N D bb v1 v2 q1 q2 m hm (jk [(3, j 3)])
  · skip
    refine P_ld 37 (.ref 6) rfl (fun _ => rfl) ?_
    refine P_ld 38 (.int (i32 3)) rfl (fun _ => rfl) ?_
    refine P_ld 39 (.ref 6) rfl (fun _ => rfl) ?_
    refine PK_gf 42 (.int (i32 (m.1 207))) rfl rfl kd_6 rfl rfl rfl ?_
    refine P_cx0 45 51 [.ref 6, .int (i32 3), .int (i32 (m.1 207))] [] rfl (fun _ => rfl) rfl rfl (D_tx_fail w m c N D hm 3 (m.1 207) (l32 3 rfl) (KCn_i hm 207 rfl)) (fun y x hm e => ⟨_, rfl, hm, Or.inr ⟨x, e, rfl⟩⟩) (fun y11 n13 => ?_)
    exact dg_tx_makeNew_45 w c N D bb v1 v2 q1 q2 y11.2.2 n13 (jk [(3, j 3)])
def kfl_tx_makeNew_14 (v1 : Int) (v2 : Int) (v3 : Int) (m : mR) : Option (Int × Int × mR) :=
  if v2 < v3 then
    kfl_tx_makeNew_28 v1 v2 m
  else
    bnd (kf_tx_fail 4 (m.1 207) m) fun y15 =>
    if y15.1 = 0 then
      kfl_tx_makeNew_28 v1 v2 y15.2.2
    else
      some (y15.1, 0, y15.2.2)
theorem dg_tx_makeNew_14 (w : wX) (c : Nat → Option am_C) (N D : Nat) (bb : Nat) (v1 : Int) (v2 : Int) (v3 : Int) (q1 : R32 v1) (q2 : R32 v2) (q3 : R32 v3) (m : mR) (hm : KCn m) (j : Nat → Int) : PP bb w D pm_75 (14, [(0, .ref 6), (1, .int (i32 v1)), (2, .int (i32 v2)), (3, .int (i32 v3))], [], (khp m c, N), 0, 0) (QS (FX0 c N) (kfl_tx_makeNew_14 v1 v2 v3 m)) := by
  unfold kfl_tx_makeNew_14
  show PP bb w D pm_75 (14, [(0, .ref 6), (1, .int (i32 v1)), (2, .int (i32 v2)), (3, .int (i32 v3))], [], (khp (mO m [] []) c, N), 0, 0) _
  refine P_ld 15 (.int (i32 v2)) rfl (fun _ => rfl) ?_
  refine P_ld 16 (.int (i32 v3)) rfl (fun _ => rfl) ?_
  refine P_icF 28 19 rfl rfl rfl q2 q3 rfl (fun h14 => ?_) (fun h14 => ?_)
  · skip
    exact dg_tx_makeNew_28 w c N D bb v1 v2 q1 q2 m hm (jk [(3, v3)])
  · skip
    refine P_ld 20 (.ref 6) rfl (fun _ => rfl) ?_
    refine P_ld 21 (.int (i32 4)) rfl (fun _ => rfl) ?_
    refine P_ld 22 (.ref 6) rfl (fun _ => rfl) ?_
    refine PK_gf 25 (.int (i32 (m.1 207))) rfl rfl kd_6 rfl rfl rfl ?_
    refine P_cx0 28 51 [.ref 6, .int (i32 4), .int (i32 (m.1 207))] [] rfl (fun _ => rfl) rfl rfl (D_tx_fail w m c N D hm 4 (m.1 207) (l32 4 rfl) (KCn_i hm 207 rfl)) (fun y x hm e => ⟨_, rfl, hm, Or.inr ⟨x, e, rfl⟩⟩) (fun y15 n17 => ?_)
    exact dg_tx_makeNew_28 w c N D bb v1 v2 q1 q2 y15.2.2 n17 (jk [(3, v3)])
def kf_tx_makeNew (v1 : Int) (v2 : Int) (v3 : Int) (m : mR) : Option (Int × Int × mR) :=
  if m.1 206 = 256 then
    kfl_tx_makeNew_14 v1 v2 v3 m
  else
    bnd (kf_tx_refuse m) fun y19 =>
    if y19.1 = 0 then
      kfl_tx_makeNew_14 v1 v2 v3 y19.2.2
    else
      some (y19.1, 0, y19.2.2)
theorem D_tx_makeNew (w : wX) (m : mR) (c : Nat → Option am_C) (N D : Nat) (hm : KCn m) (v1 : Int) (v2 : Int) (v3 : Int) (q1 : R32 v1) (q2 : R32 v2) (q3 : R32 v3) : PC w D 75 [.ref 6, .int (i32 v1), .int (i32 v2), .int (i32 v3)] (khp m c, N) (QS (FX0 c N) (kf_tx_makeNew v1 v2 v3 m)) := by
  refine Pc_of (fun D bb => ?_) D
  unfold kf_tx_makeNew
  show PP bb w D pm_75 (0, [(0, .ref 6), (1, .int (i32 v1)), (2, .int (i32 v2)), (3, .int (i32 v3))], [], (khp (mO m [] []) c, N), 0, 0) _
  refine P_ld 1 (.ref 6) rfl (fun _ => rfl) ?_
  refine PK_gf 4 (.int (i32 (m.1 206))) rfl rfl kd_6 rfl rfl rfl ?_
  refine P_ld 7 (.int (i32 256)) rfl (fun _ => rfl) ?_
  refine P_icF 14 10 rfl rfl rfl (KCn_i hm 206 rfl) (l32 256 rfl) rfl (fun h18 => ?_) (fun h18 => ?_)
  · skip
    exact dg_tx_makeNew_14 w c N D bb v1 v2 v3 q1 q2 q3 m hm (jk [])
  · skip
    refine P_ld 11 (.ref 6) rfl (fun _ => rfl) ?_
    refine P_cx0 14 76 [.ref 6] [] rfl (fun _ => rfl) rfl rfl (D_tx_refuse w m c N D hm) (fun y x hm e => ⟨_, rfl, hm, Or.inr ⟨x, e, rfl⟩⟩) (fun y19 n21 => ?_)
    exact dg_tx_makeNew_14 w c N D bb v1 v2 v3 q1 q2 q3 y19.2.2 n21 (jk [])
def cs_Arrays_fill1_b84_6 (s : Int × mR) : Prop := R32 s.1 ∧ KCn s.2
def cx_Arrays_fill1_b84_6 : (mR) → Prop := (fun (e : mR) => KCn e)
def hd_Arrays_fill1_b84_6 (c : Nat → Option am_C) (N : Nat) (v0 : Int) (v1 : Int) (v4 : Int) (s : Int × mR) (j : Nat → Int) : ag_St af_T := (6, [(0, .ref (tbr v0 + (5 + 1))), (1, .long (i64 v1)), (3, .int (i32 s.1)), (4, .int (i32 v4))], [], (khp s.2 c, N), 0, 0)
def ex_Arrays_fill1_b84_6 (c : Nat → Option am_C) (N : Nat) (v0 : Int) (v1 : Int) (v4 : Int) : (mR) → (Nat → Int) → ag_St af_T := (fun (e : mR) (j : Nat → Int) => ((22, [(0, .ref (tbr (j 0) + (5 + 1))), (1, .long (i64 (j 1))), (3, .int (i32 (j 3))), (4, .int (i32 (j 4)))], [], (khp e c, N), 0, 0) : ag_St af_T))
def kfb_Arrays_fill1_b84_6 (v0 : Int) (v1 : Int) (v4 : Int) (s : Int × mR) : Option (Sum (Int × mR) (mR)) :=
  if v4 ≤ s.1 then
    some (.inr s.2)
  else
    some (.inl (cut (s.1 + 1), (mO s.2 [] [(84, upI (s.2.2 84) (65536 * v0 + s.1) v1)])))
theorem dh_Arrays_fill1_b84_6 (w : wX) (c : Nat → Option am_C) (N D : Nat) (v0 : Int) (v1 : Int) (v4 : Int) (q0 : Rt v0) (q1 : R64 v1) (q4 : R32 v4) (bb : Nat) (Q2 : Sum (Int × mR) (mR) → ag_Re af_T → Prop) (H1 : ∀ s j, cs_Arrays_fill1_b84_6 s → PP bb w D pm_46 (hd_Arrays_fill1_b84_6 c N v0 v1 v4 s j) (Q2 (.inl s))) (H2 : ∀ x j, cx_Arrays_fill1_b84_6 x → PP bb w D pm_46 (ex_Arrays_fill1_b84_6 c N v0 v1 v4 x j) (Q2 (.inr x))) (s : Int × mR) (j : Nat → Int) (hs : cs_Arrays_fill1_b84_6 s) : PP (bb + 1) w D pm_46 (hd_Arrays_fill1_b84_6 c N v0 v1 v4 s j) (QS Q2 (kfb_Arrays_fill1_b84_6 v0 v1 v4 s)) := by
  obtain ⟨g3, gm⟩ := hs
  unfold kfb_Arrays_fill1_b84_6
  show PP (bb + 1) w D pm_46 (6, [(0, .ref (tbr v0 + (5 + 1))), (1, .long (i64 v1)), (3, .int (i32 s.1)), (4, .int (i32 v4))], [], (khp (mO s.2 [] []) c, N), 0, 0) _
  refine P1_ld 7 (.int (i32 s.1)) rfl (fun _ => rfl) ?_
  refine P_ld 9 (.int (i32 v4)) rfl (fun _ => rfl) ?_
  refine P_icF 22 12 rfl rfl rfl g3 q4 rfl (fun h3 => ?_) (fun h3 => ?_)
  · skip
    refine P_some ?_
    exact H2 s.2 (jk [(0, v0), (1, v1), (3, s.1), (4, v4)]) gm
  · skip
    refine P_ld 13 (.ref (tbr v0 + (5 + 1))) rfl (fun _ => rfl) ?_
    refine P_ld 14 (.int (i32 s.1)) rfl (fun _ => rfl) ?_
    refine P_ld 15 (.long (i64 v1)) rfl (fun _ => rfl) ?_
    refine PK_lastt2 (a' := [(84, upI (s.2.2 84) (65536 * v0 + s.1) v1)]) 16 5 (s.2.2 84) rfl rfl rfl q0 g3 rfl rfl ?_
    refine P_inc 19 [(3, .int (i32 (cut (s.1 + 1)))), (0, .ref (tbr v0 + (5 + 1))), (1, .long (i64 v1)), (4, .int (i32 v4))] rfl rfl (by decide) rfl rfl ?_
    refine P_goto 6 rfl (fun _ => rfl) ?_
    refine P_some ?_
    refine P_lv (b := [(0, .ref (tbr v0 + (5 + 1))), (1, .long (i64 v1)), (3, .int (i32 (cut (s.1 + 1)))), (4, .int (i32 v4))]) rfl rfl ⟨rfl, rfl, rfl, rfl, trivial⟩ ?_
    exact H1 (cut (s.1 + 1), (mO s.2 [] [(84, upI (s.2.2 84) (65536 * v0 + s.1) v1)])) (jk []) ⟨cut_r, (KCn_mO gm rfl rfl trivial ⟨(kE_ul (KCn_a gm 84) rfl q1), trivial⟩)⟩
def kf_Arrays_fill1_b84 (v0 : Int) (v1 : Int) (m : mR) : Option (Int × mR) :=
  bnd (whl (kfb_Arrays_fill1_b84_6 v0 v1 4) (0, m)) (fun e4 : mR =>
    some (0, e4))
theorem D_Arrays_fill1_b84 (w : wX) (m : mR) (c : Nat → Option am_C) (N D : Nat) (hm : KCn m) (v0 : Int) (v1 : Int) (q0 : Rt v0) (q1 : R64 v1) : PC w D 46 [.ref (tbr v0 + (5 + 1)), .long (i64 v1)] (khp m c, N) (QS (FK0 c N) (kf_Arrays_fill1_b84 v0 v1 m)) := by
  refine Pc_of (fun D bb => ?_) D
  unfold kf_Arrays_fill1_b84
  show PP bb w D pm_46 (0, [(0, .ref (tbr v0 + (5 + 1))), (1, .long (i64 v1))], [], (khp (mO m [] []) c, N), 0, 0) _
  refine P_ld 1 (.int (i32 0)) rfl (fun _ => rfl) ?_
  refine P_sto 2 [(3, .int (i32 0)), (0, .ref (tbr v0 + (5 + 1))), (1, .long (i64 v1))] rfl (fun _ => rfl) ?_
  refine P_ld 3 (.ref (tbr v0 + (5 + 1))) rfl (fun _ => rfl) ?_
  refine PK_alent 4 5 (L := 4) rfl rfl q0.1 q0.2 rfl rfl ?_
  refine P_sto 6 [(4, .int (i32 4)), (3, .int (i32 0)), (0, .ref (tbr v0 + (5 + 1))), (1, .long (i64 v1))] rfl (fun _ => rfl) ?_
  refine P_lv (b := [(0, .ref (tbr v0 + (5 + 1))), (1, .long (i64 v1)), (3, .int (i32 0)), (4, .int (i32 4))]) rfl rfl ⟨rfl, rfl, rfl, rfl, trivial⟩ ?_
  refine P_bnd ?_
  refine P_whl (fun bb Q2 H1 H2 s9 j9 hs9 => dh_Arrays_fill1_b84_6 w c N D v0 v1 4 q0 q1 (l32 4 rfl) bb Q2 H1 H2 s9 j9 hs9) bb (fun e4 j q5 => ?_) (0, m) (jk []) ⟨(l32 0 rfl), hm⟩
  have q6 := q5
  show PP bb w D pm_46 (22, [(0, .ref (tbr (j 0) + (5 + 1))), (1, .long (i64 (j 1))), (3, .int (i32 (j 3))), (4, .int (i32 (j 4)))], [], (khp (mO e4 [] []) c, N), 0, 0) (QS _ (some (0, e4)))
  exact P_rk0 rfl rfl q6
def kf_tb_clear (v0 : Int) (m : mR) : Option (Int × mR) :=
  bnd (kf_Arrays_fill1_b84 v0 0 (mO m [] [(72, upI (m.2 72) v0 0), (73, upI (m.2 73) v0 0), (75, upI (m.2 75) v0 1), (76, upI (m.2 76) v0 0), (77, upI (m.2 77) v0 0), (78, upI (m.2 78) v0 0)])) fun y1 =>
  some (0, y1.2)
theorem D_tb_clear (w : wX) (m : mR) (c : Nat → Option am_C) (N D : Nat) (hm : KCn m) (v0 : Int) (q0 : Rt v0) : PC w D 128 [.ref (tbr v0)] (khp m c, N) (QS (FK0 c N) (kf_tb_clear v0 m)) := by
  refine Pc_of (fun D bb => ?_) D
  unfold kf_tb_clear
  show PP bb w D pm_128 (0, [(0, .ref (tbr v0))], [], (khp (mO m [] []) c, N), 0, 0) _
  refine P_ld 1 (.ref (tbr v0)) rfl (fun _ => rfl) ?_
  refine P_ld 2 (.int (i32 0)) rfl (fun _ => rfl) ?_
  refine PK_pfi (a' := [(72, upI (m.2 72) v0 0)]) 5 72 (m.2 72) rfl rfl rfl q0.1 q0.2 rfl rfl rfl ?_
  refine P_ld 6 (.ref (tbr v0)) rfl (fun _ => rfl) ?_
  refine P_ld 7 (.int (i32 0)) rfl (fun _ => rfl) ?_
  refine PK_pfi (a' := [(72, upI (m.2 72) v0 0), (73, upI (m.2 73) v0 0)]) 10 73 (m.2 73) rfl rfl rfl q0.1 q0.2 rfl rfl rfl ?_
  refine P_ld 11 (.ref (tbr v0)) rfl (fun _ => rfl) ?_
  refine P_ld 12 (.int (i32 1)) rfl (fun _ => rfl) ?_
  refine PK_pfi (a' := [(72, upI (m.2 72) v0 0), (73, upI (m.2 73) v0 0), (75, upI (m.2 75) v0 1)]) 15 75 (m.2 75) rfl rfl rfl q0.1 q0.2 rfl rfl rfl ?_
  refine P_ld 16 (.ref (tbr v0)) rfl (fun _ => rfl) ?_
  refine P_ld 17 (.int (i32 0)) rfl (fun _ => rfl) ?_
  refine PK_pfi (a' := [(72, upI (m.2 72) v0 0), (73, upI (m.2 73) v0 0), (75, upI (m.2 75) v0 1), (76, upI (m.2 76) v0 0)]) 20 76 (m.2 76) rfl rfl rfl q0.1 q0.2 rfl rfl rfl ?_
  refine P_ld 21 (.ref (tbr v0)) rfl (fun _ => rfl) ?_
  refine P_ld 22 (.int (i32 0)) rfl (fun _ => rfl) ?_
  refine PK_pfi (a' := [(72, upI (m.2 72) v0 0), (73, upI (m.2 73) v0 0), (75, upI (m.2 75) v0 1), (76, upI (m.2 76) v0 0), (77, upI (m.2 77) v0 0)]) 25 77 (m.2 77) rfl rfl rfl q0.1 q0.2 rfl rfl rfl ?_
  refine P_ld 26 (.ref (tbr v0)) rfl (fun _ => rfl) ?_
  refine P_ld 27 (.int (i32 0)) rfl (fun _ => rfl) ?_
  refine PK_pfi (a' := [(72, upI (m.2 72) v0 0), (73, upI (m.2 73) v0 0), (75, upI (m.2 75) v0 1), (76, upI (m.2 76) v0 0), (77, upI (m.2 77) v0 0), (78, upI (m.2 78) v0 0)]) 30 78 (m.2 78) rfl rfl rfl q0.1 q0.2 rfl rfl rfl ?_
  refine P_ld 31 (.ref (tbr v0)) rfl (fun _ => rfl) ?_
  refine PK_gfr 34 rfl rfl q0.1 q0.2 rfl ?_
  refine P_ld 35 (.long (i64 0)) rfl (fun _ => rfl) ?_
  refine P_ck0 38 46 [.ref (tbr v0 + (5 + 1)), .long (i64 0)] [] rfl (fun _ => rfl) rfl (D_Arrays_fill1_b84 w (mO m [] [(72, upI (m.2 72) v0 0), (73, upI (m.2 73) v0 0), (75, upI (m.2 75) v0 1), (76, upI (m.2 76) v0 0), (77, upI (m.2 77) v0 0), (78, upI (m.2 78) v0 0)]) c N D (KCn_mO hm rfl rfl trivial ⟨(kE_ui (KCn_a hm 72) rfl (l32 0 rfl)), (kE_ui (KCn_a hm 73) rfl (l32 0 rfl)), (kE_ui (KCn_a hm 75) rfl (l32 1 rfl)), (kE_ui (KCn_a hm 76) rfl (l32 0 rfl)), (kE_ui (KCn_a hm 77) rfl (l32 0 rfl)), (kE_ui (KCn_a hm 78) rfl (l32 0 rfl)), trivial⟩) v0 0 q0 (l64 0 rfl)) (fun y1 n3 => ?_)
  exact P_rk0 rfl rfl n3
def kfl_pw_ones_17 (u0 : Int) (m : mR) : Option Int :=
  some u0
theorem dg_pw_ones_17 (w : wX) (c : Nat → Option am_C) (N D : Nat) (bb : Nat) (u0 : Int) (r0 : R64 u0) (m : mR) (hm : KCn m) (j : Nat → Int) : PP bb w D pm_116 (17, [(0, .int (i32 (j 0)))], [.long (i64 u0)], (khp m c, N), 0, 0) (QS (FP2 (khp m c, N)) (kfl_pw_ones_17 u0 m)) := by
  unfold kfl_pw_ones_17
  show PP bb w D pm_116 (17, [(0, .int (i32 (j 0)))], [.long (i64 u0)], (khp (mO m [] []) c, N), 0, 0) _
  exact P_rp2 rfl rfl r0
def kf_pw_ones (v0 : Int) (m : mR) : Option Int :=
  if v0 < 64 then
    kfl_pw_ones_17 (cutl ((shl64 1 v0) - 1)) m
  else
    kfl_pw_ones_17 (-1) m
theorem D_pw_ones (w : wX) (m : mR) (c : Nat → Option am_C) (N D : Nat) (hm : KCn m) (v0 : Int) (q0 : R32 v0) : PC w D 116 [.int (i32 v0)] (khp m c, N) (QS (FP2 (khp m c, N)) (kf_pw_ones v0 m)) := by
  refine Pc_of (fun D bb => ?_) D
  unfold kf_pw_ones
  show PP bb w D pm_116 (0, [(0, .int (i32 v0))], [], (khp (mO m [] []) c, N), 0, 0) _
  refine P_ld 1 (.int (i32 v0)) rfl (fun _ => rfl) ?_
  refine P_ld 3 (.int (i32 64)) rfl (fun _ => rfl) ?_
  refine P_icF 12 6 rfl rfl rfl q0 (l32 64 rfl) rfl (fun h1 => ?_) (fun h1 => ?_)
  · skip
    refine P_ld 13 (.long (i64 1)) rfl (fun _ => rfl) ?_
    refine P_ld 14 (.int (i32 v0)) rfl (fun _ => rfl) ?_
    refine P_opl 15 (shl64 1 v0) _ rfl (fun _ => rfl) (Int64.ofInt_toInt _).symm ?_
    refine P_ld 16 (.long (i64 1)) rfl (fun _ => rfl) ?_
    refine P_opl 17 (cutl ((shl64 1 v0) - 1)) _ rfl (fun _ => rfl) p_sub ?_
    exact dg_pw_ones_17 w c N D bb (cutl ((shl64 1 v0) - 1)) cutl_r m hm (jk [(0, v0)])
  · skip
    refine P_ld 9 (.long (i64 (-1))) rfl (fun _ => rfl) ?_
    refine P_goto 17 rfl (fun _ => rfl) ?_
    exact dg_pw_ones_17 w c N D bb (-1) (l64 (-1) rfl) m hm (jk [(0, v0)])
def kfl_rd_fittingNumber_53 (v2 : Int) (m : mR) : Option (Int × Int × mR) :=
  some (0, v2, m)
theorem dg_rd_fittingNumber_53 (w : wX) (c : Nat → Option am_C) (N D : Nat) (bb : Nat) (v2 : Int) (q2 : R64 v2) (m : mR) (hm : KCn m) (j : Nat → Int) : PP bb w D pm_115 (53, [(0, .ref 178), (1, .int (i32 (j 1))), (2, .long (i64 v2)), (4, .int (i32 (j 4)))], [], (khp m c, N), 0, 0) (QS (FX2 c N) (kfl_rd_fittingNumber_53 v2 m)) := by
  unfold kfl_rd_fittingNumber_53
  show PP bb w D pm_115 (53, [(0, .ref 178), (1, .int (i32 (j 1))), (2, .long (i64 v2)), (4, .int (i32 (j 4)))], [], (khp (mO m [] []) c, N), 0, 0) _
  refine P_ld 54 (.long (i64 v2)) rfl (fun _ => rfl) ?_
  exact P_rx2 rfl rfl q2 hm
def kf_rd_fittingNumber (v1 : Int) (m : mR) : Option (Int × Int × mR) :=
  bnd (kf_tx_expect 257 m) fun y1 =>
  if y1.1 = 0 then
    bnd (kf_pw_ones v1 y1.2.2) fun y4 =>
    if cmp64 (and64 (m.1 208) (xor64 y4 (-1))) 0 = 0 then
      kfl_rd_fittingNumber_53 (m.1 208) y1.2.2
    else
      bnd (kf_tx_fail 7 (m.1 207) y1.2.2) fun y8 =>
      if y8.1 = 0 then
        kfl_rd_fittingNumber_53 (m.1 208) y8.2.2
      else
        some (y8.1, 0, y8.2.2)
  else
    some (y1.1, 0, y1.2.2)
theorem D_rd_fittingNumber (w : wX) (m : mR) (c : Nat → Option am_C) (N D : Nat) (hm : KCn m) (v1 : Int) (q1 : R32 v1) : PC w D 115 [.ref 178, .int (i32 v1)] (khp m c, N) (QS (FX2 c N) (kf_rd_fittingNumber v1 m)) := by
  refine Pc_of (fun D bb => ?_) D
  unfold kf_rd_fittingNumber
  show PP bb w D pm_115 (0, [(0, .ref 178), (1, .int (i32 v1))], [], (khp (mO m [] []) c, N), 0, 0) _
  refine P_ld 1 (.ref 178) rfl (fun _ => rfl) ?_
  refine PK_gf 4 (.ref 6) rfl rfl kd_178 rfl rfl rfl ?_
  refine PK_gf 7 (.long (i64 (m.1 208))) rfl rfl kd_6 rfl rfl rfl ?_
  refine P_sto 8 [(2, .long (i64 (m.1 208))), (0, .ref 178), (1, .int (i32 v1))] rfl (fun _ => rfl) ?_
  refine P_ld 9 (.ref 178) rfl (fun _ => rfl) ?_
  refine PK_gf 12 (.ref 6) rfl rfl kd_178 rfl rfl rfl ?_
  refine PK_gf 15 (.int (i32 (m.1 207))) rfl rfl kd_6 rfl rfl rfl ?_
  refine P_sto 17 [(4, .int (i32 (m.1 207))), (2, .long (i64 (m.1 208))), (0, .ref 178), (1, .int (i32 v1))] rfl (fun _ => rfl) ?_
  refine P_ld 18 (.ref 178) rfl (fun _ => rfl) ?_
  refine PK_gf 21 (.ref 6) rfl rfl kd_178 rfl rfl rfl ?_
  refine P_ld 24 (.int (i32 257)) rfl (fun _ => rfl) ?_
  refine P_cx0 27 78 [.ref 6, .int (i32 257)] [] rfl (fun _ => rfl) rfl rfl (D_tx_expect w m c N D hm 257 (l32 257 rfl)) (fun y x hm e => ⟨_, rfl, hm, Or.inr ⟨x, e, rfl⟩⟩) (fun y1 n3 => ?_)
  refine P_ld 28 (.long (i64 (m.1 208))) rfl (fun _ => rfl) ?_
  refine P_ld 29 (.int (i32 v1)) rfl (fun _ => rfl) ?_
  refine P_cp2 32 116 [.int (i32 v1)] [.long (i64 (m.1 208))] rfl (fun _ => rfl) rfl (D_pw_ones w y1.2.2 c N D n3 v1 q1) (fun y4 h5 => ?_)
  refine P_ld 35 (.long (i64 (-1))) rfl (fun _ => rfl) ?_
  refine P_opl 36 (xor64 y4 (-1)) _ rfl (fun _ => rfl) (Int64.ofInt_toInt _).symm ?_
  refine P_opl 37 (and64 (m.1 208) (xor64 y4 (-1))) _ rfl (fun _ => rfl) (Int64.ofInt_toInt _).symm ?_
  refine P_ld 38 (.long (i64 0)) rfl (fun _ => rfl) ?_
  refine P_op 39 (cmp64 (and64 (m.1 208) (xor64 y4 (-1))) 0) _ rfl (fun _ => rfl) (o_cmp t64_r (l64 0 rfl)) ?_
  refine P_ifF 53 42 rfl rfl rfl cmp64_r rfl (fun h7 => ?_) (fun h7 => ?_)
  · skip
    refine P_lv (b := [(0, .ref 178), (1, .int (i32 v1)), (2, .long (i64 (m.1 208))), (4, .int (i32 (m.1 207)))]) rfl rfl ⟨rfl, rfl, rfl, rfl, trivial⟩ ?_
    exact dg_rd_fittingNumber_53 w c N D bb (m.1 208) (KCn_l hm 208 rfl) y1.2.2 n3 (jk [(1, v1), (4, m.1 207)])
  · skip
    refine P_ld 43 (.ref 178) rfl (fun _ => rfl) ?_
    refine PK_gf 46 (.ref 6) rfl rfl kd_178 rfl rfl rfl ?_
    refine P_ld 48 (.int (i32 7)) rfl (fun _ => rfl) ?_
    refine P_ld 50 (.int (i32 (m.1 207))) rfl (fun _ => rfl) ?_
    refine P_cx0 53 51 [.ref 6, .int (i32 7), .int (i32 (m.1 207))] [] rfl (fun _ => rfl) rfl rfl (D_tx_fail w y1.2.2 c N D n3 7 (m.1 207) (l32 7 rfl) (KCn_i hm 207 rfl)) (fun y x hm e => ⟨_, rfl, hm, Or.inr ⟨x, e, rfl⟩⟩) (fun y8 n10 => ?_)
    refine P_lv (b := [(0, .ref 178), (1, .int (i32 v1)), (2, .long (i64 (m.1 208))), (4, .int (i32 (m.1 207)))]) rfl rfl ⟨rfl, rfl, rfl, rfl, trivial⟩ ?_
    exact dg_rd_fittingNumber_53 w c N D bb (m.1 208) (KCn_l hm 208 rfl) y8.2.2 n10 (jk [(1, v1), (4, m.1 207)])
end X28K
