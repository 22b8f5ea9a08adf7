noncomputable section X28H
def kf_fm_closeChoice (m : mR) : Option (Int × Int × mR) :=
  bnd (kf_fm_agree ((m.2 70) (cut ((m.1 229) - 3))) (-1) m) fun y1 =>
  if y1.1 = 0 then
    bnd (kf_fm_agree ((m.2 70) (cut ((m.1 229) - 2))) ((m.2 70) (cut ((m.1 229) - 1))) y1.2.2) fun y4 =>
    if y4.1 = 0 then
      bnd (kf_fm_add 404 ((m.2 70) (cut ((m.1 229) - 3))) ((m.2 70) (cut ((m.1 229) - 2))) ((y4.2.2.2 22) ((m.2 70) (cut ((m.1 229) - 2)))) ((y4.2.2.2 23) ((m.2 70) (cut ((m.1 229) - 3)))) (mO y4.2.2 [(228, cut ((y4.2.2.1 228) - 1)), (229, cut ((y4.2.2.1 229) - 3)), (230, cut ((y4.2.2.1 230) - 1))] [])) fun y7 =>
      some (0, 0, (mO y7.2 [] [(21, upI (y7.2.2 21) y7.1 ((m.2 70) (cut ((m.1 229) - 1))))]))
    else
      some (y4.1, 0, y4.2.2)
  else
    some (y1.1, 0, y1.2.2)
theorem D_fm_closeChoice (w : wX) (m : mR) (c : Nat → Option am_C) (N D : Nat) (hm : KCn m) : PC w D 112 [.ref 181] (khp m c, N) (QS (FX0 c N) (kf_fm_closeChoice m)) := by
  refine Pc_of (fun D bb => ?_) D
  unfold kf_fm_closeChoice
  show PP bb w D pm_112 (0, [(0, .ref 181)], [], (khp (mO m [] []) c, N), 0, 0) _
  refine P_ld 1 (.ref 181) rfl (fun _ => rfl) ?_
  refine PK_gf 4 (.ref 184) rfl rfl kd_181 rfl rfl rfl ?_
  refine P_ld 5 (.ref 181) rfl (fun _ => rfl) ?_
  refine PK_gf 8 (.int (i32 (m.1 229))) rfl rfl kd_181 rfl rfl rfl ?_
  refine P_ld 9 (.int (i32 3)) rfl (fun _ => rfl) ?_
  refine P_op 10 (cut ((m.1 229) - 3)) _ rfl (fun _ => rfl) o_sub ?_
  refine PK_iald2 11 70 (m.2 70) rfl rfl rfl cut_r rfl ?_
  refine P_sto 12 [(1, .int (i32 ((m.2 70) (cut ((m.1 229) - 3))))), (0, .ref 181)] rfl (fun _ => rfl) ?_
  refine P_ld 13 (.ref 181) rfl (fun _ => rfl) ?_
  refine PK_gf 16 (.ref 184) rfl rfl kd_181 rfl rfl rfl ?_
  refine P_ld 17 (.ref 181) rfl (fun _ => rfl) ?_
  refine PK_gf 20 (.int (i32 (m.1 229))) rfl rfl kd_181 rfl rfl rfl ?_
  refine P_ld 21 (.int (i32 2)) rfl (fun _ => rfl) ?_
  refine P_op 22 (cut ((m.1 229) - 2)) _ rfl (fun _ => rfl) o_sub ?_
  refine PK_iald2 23 70 (m.2 70) rfl rfl rfl cut_r rfl ?_
  refine P_sto 24 [(2, .int (i32 ((m.2 70) (cut ((m.1 229) - 2))))), (1, .int (i32 ((m.2 70) (cut ((m.1 229) - 3))))), (0, .ref 181)] rfl (fun _ => rfl) ?_
  refine P_ld 25 (.ref 181) rfl (fun _ => rfl) ?_
  refine PK_gf 28 (.ref 184) rfl rfl kd_181 rfl rfl rfl ?_
  refine P_ld 29 (.ref 181) rfl (fun _ => rfl) ?_
  refine PK_gf 32 (.int (i32 (m.1 229))) rfl rfl kd_181 rfl rfl rfl ?_
  refine P_ld 33 (.int (i32 1)) rfl (fun _ => rfl) ?_
  refine P_op 34 (cut ((m.1 229) - 1)) _ rfl (fun _ => rfl) o_sub ?_
  refine PK_iald2 35 70 (m.2 70) rfl rfl rfl cut_r rfl ?_
  refine P_sto 36 [(3, .int (i32 ((m.2 70) (cut ((m.1 229) - 1))))), (2, .int (i32 ((m.2 70) (cut ((m.1 229) - 2))))), (1, .int (i32 ((m.2 70) (cut ((m.1 229) - 3))))), (0, .ref 181)] rfl (fun _ => rfl) ?_
  refine P_ld 37 (.ref 181) rfl (fun _ => rfl) ?_
  refine P_ld 38 (.int (i32 ((m.2 70) (cut ((m.1 229) - 3))))) rfl (fun _ => rfl) ?_
  refine P_ld 39 (.int (i32 (-1))) rfl (fun _ => rfl) ?_
  refine P_cx0 42 110 [.ref 181, .int (i32 ((m.2 70) (cut ((m.1 229) - 3)))), .int (i32 (-1))] [] rfl (fun _ => rfl) rfl rfl (D_fm_agree w m c N D hm ((m.2 70) (cut ((m.1 229) - 3))) (-1) (kE_i (KCn_a hm 70) rfl _) (l32 (-1) rfl)) (fun y x hm e => ⟨_, rfl, hm, Or.inr ⟨x, e, rfl⟩⟩) (fun y1 n3 => ?_)
  refine P_ld 43 (.ref 181) rfl (fun _ => rfl) ?_
  refine P_ld 44 (.int (i32 ((m.2 70) (cut ((m.1 229) - 2))))) rfl (fun _ => rfl) ?_
  refine P_ld 45 (.int (i32 ((m.2 70) (cut ((m.1 229) - 1))))) rfl (fun _ => rfl) ?_
  refine P_cx0 48 110 [.ref 181, .int (i32 ((m.2 70) (cut ((m.1 229) - 2)))), .int (i32 ((m.2 70) (cut ((m.1 229) - 1))))] [] rfl (fun _ => rfl) rfl rfl (D_fm_agree w y1.2.2 c N D n3 ((m.2 70) (cut ((m.1 229) - 2))) ((m.2 70) (cut ((m.1 229) - 1))) (kE_i (KCn_a hm 70) rfl _) (kE_i (KCn_a hm 70) rfl _)) (fun y x hm e => ⟨_, rfl, hm, Or.inr ⟨x, e, rfl⟩⟩) (fun y4 n6 => ?_)
  refine P_ld 49 (.ref 181) rfl (fun _ => rfl) ?_
  refine P_ld 50 (.ref 181) rfl (fun _ => rfl) ?_
  refine PK_gf 53 (.int (i32 (y4.2.2.1 228))) rfl rfl kd_181 rfl rfl rfl ?_
  refine P_ld 54 (.int (i32 1)) rfl (fun _ => rfl) ?_
  refine P_op 55 (cut ((y4.2.2.1 228) - 1)) _ rfl (fun _ => rfl) o_sub ?_
  refine PK_pf (l' := [(228, cut ((y4.2.2.1 228) - 1))]) 58 (cut ((y4.2.2.1 228) - 1)) rfl rfl kd_181 rfl rfl rfl rfl rfl rfl rfl ?_
  refine P_ld 59 (.ref 181) rfl (fun _ => rfl) ?_
  refine P_ld 60 (.ref 181) rfl (fun _ => rfl) ?_
  refine PK_gf 63 (.int (i32 (y4.2.2.1 230))) rfl rfl kd_181 rfl rfl rfl ?_
  refine P_ld 64 (.int (i32 1)) rfl (fun _ => rfl) ?_
  refine P_op 65 (cut ((y4.2.2.1 230) - 1)) _ rfl (fun _ => rfl) o_sub ?_
  refine PK_pf (l' := [(228, cut ((y4.2.2.1 228) - 1)), (230, cut ((y4.2.2.1 230) - 1))]) 68 (cut ((y4.2.2.1 230) - 1)) rfl rfl kd_181 rfl rfl rfl rfl rfl rfl rfl ?_
  refine P_ld 69 (.ref 181) rfl (fun _ => rfl) ?_
  refine P_ld 70 (.ref 181) rfl (fun _ => rfl) ?_
  refine PK_gf 73 (.int (i32 (y4.2.2.1 229))) rfl rfl kd_181 rfl rfl rfl ?_
  refine P_ld 74 (.int (i32 3)) rfl (fun _ => rfl) ?_
  refine P_op 75 (cut ((y4.2.2.1 229) - 3)) _ rfl (fun _ => rfl) o_sub ?_
  refine PK_pf (l' := [(228, cut ((y4.2.2.1 228) - 1)), (229, cut ((y4.2.2.1 229) - 3)), (230, cut ((y4.2.2.1 230) - 1))]) 78 (cut ((y4.2.2.1 229) - 3)) rfl rfl kd_181 rfl rfl rfl rfl rfl rfl rfl ?_
  refine P_ld 79 (.ref 181) rfl (fun _ => rfl) ?_
  refine PK_gf 82 (.ref 22) rfl rfl kd_181 rfl rfl rfl ?_
  refine PK_gf 85 (.ref 26) rfl rfl kd_22 rfl rfl rfl ?_
  refine P_ld 86 (.ref 181) rfl (fun _ => rfl) ?_
  refine P_ld 89 (.int (i32 404)) rfl (fun _ => rfl) ?_
  refine P_ld 90 (.int (i32 ((m.2 70) (cut ((m.1 229) - 3))))) rfl (fun _ => rfl) ?_
  refine P_ld 91 (.int (i32 ((m.2 70) (cut ((m.1 229) - 2))))) rfl (fun _ => rfl) ?_
  refine P_ld 92 (.ref 181) rfl (fun _ => rfl) ?_
  refine PK_gf 95 (.ref 22) rfl rfl kd_181 rfl rfl rfl ?_
  refine PK_gf 98 (.ref 27) rfl rfl kd_22 rfl rfl rfl ?_
  refine P_ld 99 (.int (i32 ((m.2 70) (cut ((m.1 229) - 2))))) rfl (fun _ => rfl) ?_
  refine PK_iald2 100 22 (y4.2.2.2 22) rfl rfl rfl (kE_i (KCn_a hm 70) rfl _) rfl ?_
  refine P_ld 101 (.ref 181) rfl (fun _ => rfl) ?_
  refine PK_gf 104 (.ref 22) rfl rfl kd_181 rfl rfl rfl ?_
  refine PK_gf 107 (.ref 28) rfl rfl kd_22 rfl rfl rfl ?_
  refine P_ld 108 (.int (i32 ((m.2 70) (cut ((m.1 229) - 3))))) rfl (fun _ => rfl) ?_
  refine PK_iald2 109 23 (y4.2.2.2 23) rfl rfl rfl (kE_i (KCn_a hm 70) rfl _) rfl ?_
  refine P_ck1 112 97 [.ref 181, .int (i32 404), .int (i32 ((m.2 70) (cut ((m.1 229) - 3)))), .int (i32 ((m.2 70) (cut ((m.1 229) - 2)))), .int (i32 ((y4.2.2.2 22) ((m.2 70) (cut ((m.1 229) - 2))))), .int (i32 ((y4.2.2.2 23) ((m.2 70) (cut ((m.1 229) - 3)))))] [.ref 26] rfl (fun _ => rfl) rfl (D_fm_add w (mO y4.2.2 [(228, cut ((y4.2.2.1 228) - 1)), (229, cut ((y4.2.2.1 229) - 3)), (230, cut ((y4.2.2.1 230) - 1))] []) c N D (KCn_mO n6 rfl rfl ⟨(kV_i rfl cut_r), (kV_i rfl cut_r), (kV_i rfl cut_r), trivial⟩ trivial) 404 ((m.2 70) (cut ((m.1 229) - 3))) ((m.2 70) (cut ((m.1 229) - 2))) ((y4.2.2.2 22) ((m.2 70) (cut ((m.1 229) - 2)))) ((y4.2.2.2 23) ((m.2 70) (cut ((m.1 229) - 3)))) (l32 404 rfl) (kE_i (KCn_a hm 70) rfl _) (kE_i (KCn_a hm 70) rfl _) (kE_i (KCn_a n6 22) rfl _) (kE_i (KCn_a n6 23) rfl _)) (fun y7 h8 n9 => ?_)
  refine P_ld 113 (.int (i32 ((m.2 70) (cut ((m.1 229) - 1))))) rfl (fun _ => rfl) ?_
  refine PK_iast2 (a' := [(21, upI (y7.2.2 21) y7.1 ((m.2 70) (cut ((m.1 229) - 1))))]) 114 21 (y7.2.2 21) rfl rfl rfl h8 rfl rfl ?_
  exact P_rx0 rfl rfl (KCn_mO n9 rfl rfl trivial ⟨(kE_ui (KCn_a n9 21) rfl (kE_i (KCn_a hm 70) rfl _)), trivial⟩)
def kfl_fm_deepen_102 (u0 : Int) (m : mR) : Option (Int × Int × mR) :=
  if m.1 230 ≤ 24 then
    some (0, 0, m)
  else
    if u0 = 0 then
      some (0, 0, m)
    else
      bnd (kf_tx_fail 4 (m.1 207) m) fun y3 =>
      if y3.1 = 0 then
        some (0, 0, y3.2.2)
      else
        some (y3.1, 0, y3.2.2)
theorem dg_fm_deepen_102 (w : wX) (c : Nat → Option am_C) (N D : Nat) (bb : Nat) (u0 : Int) (r0 : R32 u0) (m : mR) (hm : KCn m) (j : Nat → Int) : PP bb w D pm_95 (102, [(0, .ref 181)], [.int (i32 u0)], (khp m c, N), 0, 0) (QS (FX0 c N) (kfl_fm_deepen_102 u0 m)) := by
  unfold kfl_fm_deepen_102
  show PP bb w D pm_95 (102, [(0, .ref 181)], [.int (i32 u0)], (khp (mO m [] []) c, N), 0, 0) _
  refine P_sto 103 [(1, .int (i32 u0)), (0, .ref 181)] rfl (fun _ => rfl) ?_
  refine P_ld 104 (.ref 181) rfl (fun _ => rfl) ?_
  refine PK_gf 107 (.int (i32 (m.1 230))) rfl rfl kd_181 rfl rfl rfl ?_
  refine P_ld 109 (.int (i32 24)) rfl (fun _ => rfl) ?_
  refine P_icF 131 112 rfl rfl rfl (KCn_i hm 230 rfl) (l32 24 rfl) rfl (fun h1 => ?_) (fun h1 => ?_)
  · skip
    exact P_rx0 rfl rfl hm
  · skip
    refine P_ld 113 (.int (i32 u0)) rfl (fun _ => rfl) ?_
    refine P_ifF 131 116 rfl rfl rfl r0 rfl (fun h2 => ?_) (fun h2 => ?_)
    · skip
      exact P_rx0 rfl rfl hm
    · skip
      refine P_ld 117 (.ref 181) rfl (fun _ => rfl) ?_
      refine PK_gf 120 (.ref 6) rfl rfl kd_181 rfl rfl rfl ?_
      refine P_ld 121 (.int (i32 4)) rfl (fun _ => rfl) ?_
      refine P_ld 122 (.ref 181) rfl (fun _ => rfl) ?_
      refine PK_gf 125 (.ref 6) rfl rfl kd_181 rfl rfl rfl ?_
      refine PK_gf 128 (.int (i32 (m.1 207))) rfl rfl kd_6 rfl rfl rfl ?_
      refine P_cx0 131 51 [.ref 6, .int (i32 4), .int (i32 (m.1 207))] [] rfl (fun _ => rfl) rfl rfl (D_tx_fail w m c N D hm 4 (m.1 207) (l32 4 rfl) (KCn_i hm 207 rfl)) (fun y x hm e => ⟨_, rfl, hm, Or.inr ⟨x, e, rfl⟩⟩) (fun y3 n5 => ?_)
      exact P_rx0 rfl rfl n5
def kfl_fm_deepen_97 (m : mR) : Option (Int × Int × mR) :=
  kfl_fm_deepen_102 1 m
theorem dg_fm_deepen_97 (w : wX) (c : Nat → Option am_C) (N D : Nat) (bb : Nat) (m : mR) (hm : KCn m) (j : Nat → Int) : PP bb w D pm_95 (97, [(0, .ref 181)], [], (khp m c, N), 0, 0) (QS (FX0 c N) (kfl_fm_deepen_97 m)) := by
  unfold kfl_fm_deepen_97
  show PP bb w D pm_95 (97, [(0, .ref 181)], [], (khp (mO m [] []) c, N), 0, 0) _
  refine P_ld 98 (.int (i32 1)) rfl (fun _ => rfl) ?_
  refine P_goto 102 rfl (fun _ => rfl) ?_
  exact dg_fm_deepen_102 w c N D bb 1 (l32 1 rfl) m hm (jk [])
def kf_fm_deepen (m : mR) : Option (Int × Int × mR) :=
  if m.1 206 = 257 then
    kfl_fm_deepen_97 (mO m [(230, cut ((m.1 230) + 1))] [])
  else
    if m.1 206 = 256 then
      kfl_fm_deepen_97 (mO m [(230, cut ((m.1 230) + 1))] [])
    else
      if m.1 206 = 329 then
        kfl_fm_deepen_97 (mO m [(230, cut ((m.1 230) + 1))] [])
      else
        if m.1 206 = 40 then
          kfl_fm_deepen_97 (mO m [(230, cut ((m.1 230) + 1))] [])
        else
          if m.1 206 = 126 then
            kfl_fm_deepen_97 (mO m [(230, cut ((m.1 230) + 1))] [])
          else
            if m.1 206 = 33 then
              kfl_fm_deepen_97 (mO m [(230, cut ((m.1 230) + 1))] [])
            else
              if m.1 206 = 45 then
                kfl_fm_deepen_97 (mO m [(230, cut ((m.1 230) + 1))] [])
              else
                kfl_fm_deepen_102 0 (mO m [(230, cut ((m.1 230) + 1))] [])
theorem D_fm_deepen (w : wX) (m : mR) (c : Nat → Option am_C) (N D : Nat) (hm : KCn m) : PC w D 95 [.ref 181] (khp m c, N) (QS (FX0 c N) (kf_fm_deepen m)) := by
  refine Pc_of (fun D bb => ?_) D
  unfold kf_fm_deepen
  show PP bb w D pm_95 (0, [(0, .ref 181)], [], (khp (mO m [] []) c, N), 0, 0) _
  refine P_ld 1 (.ref 181) rfl (fun _ => rfl) ?_
  refine P_ld 2 (.ref 181) rfl (fun _ => rfl) ?_
  refine PK_gf 5 (.int (i32 (m.1 230))) rfl rfl kd_181 rfl rfl rfl ?_
  refine P_ld 6 (.int (i32 1)) rfl (fun _ => rfl) ?_
  refine P_op 7 (cut ((m.1 230) + 1)) _ rfl (fun _ => rfl) o_add ?_
  refine PK_pf (l' := [(230, cut ((m.1 230) + 1))]) 10 (cut ((m.1 230) + 1)) rfl rfl kd_181 rfl rfl rfl rfl rfl rfl rfl ?_
  refine P_ld 11 (.ref 181) rfl (fun _ => rfl) ?_
  refine PK_gf 14 (.ref 6) rfl rfl kd_181 rfl rfl rfl ?_
  refine PK_gf 17 (.int (i32 (m.1 206))) rfl rfl kd_6 rfl rfl rfl ?_
  refine P_ld 20 (.int (i32 257)) rfl (fun _ => rfl) ?_
  refine P_icF 97 23 rfl rfl rfl (KCn_i hm 206 rfl) (l32 257 rfl) rfl (fun h6 => ?_) (fun h6 => ?_)
  · skip
    exact dg_fm_deepen_97 w c N D bb (mO m [(230, cut ((m.1 230) + 1))] []) (KCn_mO hm rfl rfl ⟨(kV_i rfl cut_r), trivial⟩ trivial) (jk [])
  · skip
    refine P_ld 24 (.ref 181) rfl (fun _ => rfl) ?_
    refine PK_gf 27 (.ref 6) rfl rfl kd_181 rfl rfl rfl ?_
    refine PK_gf 30 (.int (i32 (m.1 206))) rfl rfl kd_6 rfl rfl rfl ?_
    refine P_ld 33 (.int (i32 256)) rfl (fun _ => rfl) ?_
    refine P_icF 97 36 rfl rfl rfl (KCn_i hm 206 rfl) (l32 256 rfl) rfl (fun h7 => ?_) (fun h7 => ?_)
    · skip
      exact dg_fm_deepen_97 w c N D bb (mO m [(230, cut ((m.1 230) + 1))] []) (KCn_mO hm rfl rfl ⟨(kV_i rfl cut_r), trivial⟩ trivial) (jk [])
    · skip
      refine P_ld 37 (.ref 181) rfl (fun _ => rfl) ?_
      refine PK_gf 40 (.ref 6) rfl rfl kd_181 rfl rfl rfl ?_
      refine PK_gf 43 (.int (i32 (m.1 206))) rfl rfl kd_6 rfl rfl rfl ?_
      refine P_ld 46 (.int (i32 329)) rfl (fun _ => rfl) ?_
      refine P_icF 97 49 rfl rfl rfl (KCn_i hm 206 rfl) (l32 329 rfl) rfl (fun h8 => ?_) (fun h8 => ?_)
      · skip
        exact dg_fm_deepen_97 w c N D bb (mO m [(230, cut ((m.1 230) + 1))] []) (KCn_mO hm rfl rfl ⟨(kV_i rfl cut_r), trivial⟩ trivial) (jk [])
      · skip
        refine P_ld 50 (.ref 181) rfl (fun _ => rfl) ?_
        refine PK_gf 53 (.ref 6) rfl rfl kd_181 rfl rfl rfl ?_
        refine PK_gf 56 (.int (i32 (m.1 206))) rfl rfl kd_6 rfl rfl rfl ?_
        refine P_ld 58 (.int (i32 40)) rfl (fun _ => rfl) ?_
        refine P_icF 97 61 rfl rfl rfl (KCn_i hm 206 rfl) (l32 40 rfl) rfl (fun h9 => ?_) (fun h9 => ?_)
        · skip
          exact dg_fm_deepen_97 w c N D bb (mO m [(230, cut ((m.1 230) + 1))] []) (KCn_mO hm rfl rfl ⟨(kV_i rfl cut_r), trivial⟩ trivial) (jk [])
        · skip
          refine P_ld 62 (.ref 181) rfl (fun _ => rfl) ?_
          refine PK_gf 65 (.ref 6) rfl rfl kd_181 rfl rfl rfl ?_
          refine PK_gf 68 (.int (i32 (m.1 206))) rfl rfl kd_6 rfl rfl rfl ?_
          refine P_ld 70 (.int (i32 126)) rfl (fun _ => rfl) ?_
          refine P_icF 97 73 rfl rfl rfl (KCn_i hm 206 rfl) (l32 126 rfl) rfl (fun h10 => ?_) (fun h10 => ?_)
          · skip
            exact dg_fm_deepen_97 w c N D bb (mO m [(230, cut ((m.1 230) + 1))] []) (KCn_mO hm rfl rfl ⟨(kV_i rfl cut_r), trivial⟩ trivial) (jk [])
          · skip
            refine P_ld 74 (.ref 181) rfl (fun _ => rfl) ?_
            refine PK_gf 77 (.ref 6) rfl rfl kd_181 rfl rfl rfl ?_
            refine PK_gf 80 (.int (i32 (m.1 206))) rfl rfl kd_6 rfl rfl rfl ?_
            refine P_ld 82 (.int (i32 33)) rfl (fun _ => rfl) ?_
            refine P_icF 97 85 rfl rfl rfl (KCn_i hm 206 rfl) (l32 33 rfl) rfl (fun h11 => ?_) (fun h11 => ?_)
            · skip
              exact dg_fm_deepen_97 w c N D bb (mO m [(230, cut ((m.1 230) + 1))] []) (KCn_mO hm rfl rfl ⟨(kV_i rfl cut_r), trivial⟩ trivial) (jk [])
            · skip
              refine P_ld 86 (.ref 181) rfl (fun _ => rfl) ?_
              refine PK_gf 89 (.ref 6) rfl rfl kd_181 rfl rfl rfl ?_
              refine PK_gf 92 (.int (i32 (m.1 206))) rfl rfl kd_6 rfl rfl rfl ?_
              refine P_ld 94 (.int (i32 45)) rfl (fun _ => rfl) ?_
              refine P_icE 101 97 rfl rfl rfl (KCn_i hm 206 rfl) (l32 45 rfl) rfl (fun h12 => ?_) (fun h12 => ?_)
              · skip
                exact dg_fm_deepen_97 w c N D bb (mO m [(230, cut ((m.1 230) + 1))] []) (KCn_mO hm rfl rfl ⟨(kV_i rfl cut_r), trivial⟩ trivial) (jk [])
              · skip
                refine P_ld 102 (.int (i32 0)) rfl (fun _ => rfl) ?_
                exact dg_fm_deepen_102 w c N D bb 0 (l32 0 rfl) (mO m [(230, cut ((m.1 230) + 1))] []) (KCn_mO hm rfl rfl ⟨(kV_i rfl cut_r), trivial⟩ trivial) (jk [])
def kfl_fm_open_25 (v1 : Int) (m : mR) : Option (Int × Int × mR) :=
  bnd (kf_tx_advance (mO m [(228, cut ((m.1 228) + 1))] [(68, upI (m.2 68) (m.1 228) v1), (69, upI (m.2 69) (m.1 228) (m.1 207))])) fun y1 =>
  if y1.1 = 0 then
    some (0, 0, y1.2.2)
  else
    some (y1.1, 0, y1.2.2)
theorem dg_fm_open_25 (w : wX) (c : Nat → Option am_C) (N D : Nat) (bb : Nat) (v1 : Int) (q1 : R32 v1) (m : mR) (hm : KCn m) (j : Nat → Int) : PP bb w D pm_94 (25, [(0, .ref 181), (1, .int (i32 v1))], [], (khp m c, N), 0, 0) (QS (FX0 c N) (kfl_fm_open_25 v1 m)) := by
  unfold kfl_fm_open_25
  show PP bb w D pm_94 (25, [(0, .ref 181), (1, .int (i32 v1))], [], (khp (mO m [] []) c, N), 0, 0) _
  refine P_ld 26 (.ref 181) rfl (fun _ => rfl) ?_
  refine PK_gf 29 (.ref 182) rfl rfl kd_181 rfl rfl rfl ?_
  refine P_ld 30 (.ref 181) rfl (fun _ => rfl) ?_
  refine PK_gf 33 (.int (i32 (m.1 228))) rfl rfl kd_181 rfl rfl rfl ?_
  refine P_ld 34 (.int (i32 v1)) rfl (fun _ => rfl) ?_
  refine PK_iast2 (a' := [(68, upI (m.2 68) (m.1 228) v1)]) 35 68 (m.2 68) rfl rfl rfl (KCn_i hm 228 rfl) rfl rfl ?_
  refine P_ld 36 (.ref 181) rfl (fun _ => rfl) ?_
  refine PK_gf 39 (.ref 183) rfl rfl kd_181 rfl rfl rfl ?_
  refine P_ld 40 (.ref 181) rfl (fun _ => rfl) ?_
  refine PK_gf 43 (.int (i32 (m.1 228))) rfl rfl kd_181 rfl rfl rfl ?_
  refine P_ld 44 (.ref 181) rfl (fun _ => rfl) ?_
  refine PK_gf 47 (.ref 6) rfl rfl kd_181 rfl rfl rfl ?_
  refine PK_gf 50 (.int (i32 (m.1 207))) rfl rfl kd_6 rfl rfl rfl ?_
  refine PK_iast2 (a' := [(68, upI (m.2 68) (m.1 228) v1), (69, upI (m.2 69) (m.1 228) (m.1 207))]) 51 69 (m.2 69) rfl rfl rfl (KCn_i hm 228 rfl) rfl rfl ?_
  refine P_ld 52 (.ref 181) rfl (fun _ => rfl) ?_
  refine P_ld 53 (.ref 181) rfl (fun _ => rfl) ?_
  refine PK_gf 56 (.int (i32 (m.1 228))) rfl rfl kd_181 rfl rfl rfl ?_
  refine P_ld 57 (.int (i32 1)) rfl (fun _ => rfl) ?_
  refine P_op 58 (cut ((m.1 228) + 1)) _ rfl (fun _ => rfl) o_add ?_
  refine PK_pf (l' := [(228, cut ((m.1 228) + 1))]) 61 (cut ((m.1 228) + 1)) rfl rfl kd_181 rfl rfl rfl rfl rfl rfl rfl ?_
  refine P_ld 62 (.ref 181) rfl (fun _ => rfl) ?_
  refine PK_gf 65 (.ref 6) rfl rfl kd_181 rfl rfl rfl ?_
  refine P_cx0 68 50 [.ref 6] [] rfl (fun _ => rfl) rfl rfl (D_tx_advance w (mO m [(228, cut ((m.1 228) + 1))] [(68, upI (m.2 68) (m.1 228) v1), (69, upI (m.2 69) (m.1 228) (m.1 207))]) c N D (KCn_mO hm rfl rfl ⟨(kV_i rfl cut_r), trivial⟩ ⟨(kE_ui (KCn_a hm 68) rfl q1), (kE_ui (KCn_a hm 69) rfl (KCn_i hm 207 rfl)), trivial⟩)) (fun y x hm e => ⟨_, rfl, hm, Or.inr ⟨x, e, rfl⟩⟩) (fun y1 n3 => ?_)
  exact P_rx0 rfl rfl n3
def kf_fm_open (v1 : Int) (m : mR) : Option (Int × Int × mR) :=
  if m.1 228 < 288 then
    kfl_fm_open_25 v1 m
  else
    bnd (kf_tx_fail 4 (m.1 207) m) fun y5 =>
    if y5.1 = 0 then
      kfl_fm_open_25 v1 y5.2.2
    else
      some (y5.1, 0, y5.2.2)
theorem D_fm_open (w : wX) (m : mR) (c : Nat → Option am_C) (N D : Nat) (hm : KCn m) (v1 : Int) (q1 : R32 v1) : PC w D 94 [.ref 181, .int (i32 v1)] (khp m c, N) (QS (FX0 c N) (kf_fm_open v1 m)) := by
  refine Pc_of (fun D bb => ?_) D
  unfold kf_fm_open
  show PP bb w D pm_94 (0, [(0, .ref 181), (1, .int (i32 v1))], [], (khp (mO m [] []) c, N), 0, 0) _
  refine P_ld 1 (.ref 181) rfl (fun _ => rfl) ?_
  refine PK_gf 4 (.int (i32 (m.1 228))) rfl rfl kd_181 rfl rfl rfl ?_
  refine P_ld 7 (.int (i32 288)) rfl (fun _ => rfl) ?_
  refine P_icF 25 10 rfl rfl rfl (KCn_i hm 228 rfl) (l32 288 rfl) rfl (fun h4 => ?_) (fun h4 => ?_)
  · skip
    exact dg_fm_open_25 w c N D bb v1 q1 m hm (jk [])
  · skip
    refine P_ld 11 (.ref 181) rfl (fun _ => rfl) ?_
    refine PK_gf 14 (.ref 6) rfl rfl kd_181 rfl rfl rfl ?_
    refine P_ld 15 (.int (i32 4)) rfl (fun _ => rfl) ?_
    refine P_ld 16 (.ref 181) rfl (fun _ => rfl) ?_
    refine PK_gf 19 (.ref 6) rfl rfl kd_181 rfl rfl rfl ?_
    refine PK_gf 22 (.int (i32 (m.1 207))) rfl rfl kd_6 rfl rfl rfl ?_
    refine P_cx0 25 51 [.ref 6, .int (i32 4), .int (i32 (m.1 207))] [] rfl (fun _ => rfl) rfl rfl (D_tx_fail w m c N D hm 4 (m.1 207) (l32 4 rfl) (KCn_i hm 207 rfl)) (fun y x hm e => ⟨_, rfl, hm, Or.inr ⟨x, e, rfl⟩⟩) (fun y5 n7 => ?_)
    exact dg_fm_open_25 w c N D bb v1 q1 y5.2.2 n7 (jk [])
def kfl_fm_joined_91 (v3 : Int) (u1 : Int) (u3 : Int) (m : mR) : Option (Int × Int × mR) :=
  bnd (kf_tx_fail u1 ((m.2 23) u3) m) fun y1 =>
  if y1.1 = 0 then
    some (0, v3, y1.2.2)
  else
    some (y1.1, 0, y1.2.2)
theorem dg_fm_joined_91 (w : wX) (c : Nat → Option am_C) (N D : Nat) (bb : Nat) (v3 : Int) (u1 : Int) (u3 : Int) (q3 : R32 v3) (r1 : R32 u1) (r3 : R32 u3) (m : mR) (hm : KCn m) (j : Nat → Int) : PP bb w D pm_111 (91, [(0, .ref 181), (1, .int (i32 (j 1))), (2, .int (i32 (j 2))), (3, .int (i32 v3)), (4, .int (i32 (j 4)))], [.int (i32 u3), .ref 28, .int (i32 u1), .ref 6], (khp m c, N), 0, 0) (QS (FX1 c N) (kfl_fm_joined_91 v3 u1 u3 m)) := by
  unfold kfl_fm_joined_91
  show PP bb w D pm_111 (91, [(0, .ref 181), (1, .int (i32 (j 1))), (2, .int (i32 (j 2))), (3, .int (i32 v3)), (4, .int (i32 (j 4)))], [.int (i32 u3), .ref 28, .int (i32 u1), .ref 6], (khp (mO m [] []) c, N), 0, 0) _
  refine PK_iald2 92 23 (m.2 23) rfl rfl rfl r3 rfl ?_
  refine P_cx0 95 51 [.ref 6, .int (i32 u1), .int (i32 ((m.2 23) u3))] [] rfl (fun _ => rfl) rfl rfl (D_tx_fail w m c N D hm u1 ((m.2 23) u3) r1 (kE_i (KCn_a hm 23) rfl _)) (fun y x hm e => ⟨_, rfl, hm, Or.inr ⟨x, e, rfl⟩⟩) (fun y1 n3 => ?_)
  refine P_ld 96 (.int (i32 v3)) rfl (fun _ => rfl) ?_
  exact P_rx1 rfl q3 n3
def kfl_fm_joined_68 (v1 : Int) (v2 : Int) (v3 : Int) (v4 : Int) (m : mR) : Option (Int × Int × mR) :=
  if v4 = 0 then
    kfl_fm_joined_91 v3 7 v2 m
  else
    kfl_fm_joined_91 v3 7 v1 m
theorem dg_fm_joined_68 (w : wX) (c : Nat → Option am_C) (N D : Nat) (bb : Nat) (v1 : Int) (v2 : Int) (v3 : Int) (v4 : Int) (q1 : R32 v1) (q2 : R32 v2) (q3 : R32 v3) (q4 : R32 v4) (m : mR) (hm : KCn m) (j : Nat → Int) : PP bb w D pm_111 (68, [(0, .ref 181), (1, .int (i32 v1)), (2, .int (i32 v2)), (3, .int (i32 v3)), (4, .int (i32 v4))], [], (khp m c, N), 0, 0) (QS (FX1 c N) (kfl_fm_joined_68 v1 v2 v3 v4 m)) := by
  unfold kfl_fm_joined_68
  show PP bb w D pm_111 (68, [(0, .ref 181), (1, .int (i32 v1)), (2, .int (i32 v2)), (3, .int (i32 v3)), (4, .int (i32 v4))], [], (khp (mO m [] []) c, N), 0, 0) _
  refine P_ld 69 (.ref 181) rfl (fun _ => rfl) ?_
  refine PK_gf 72 (.ref 6) rfl rfl kd_181 rfl rfl rfl ?_
  refine P_ld 74 (.int (i32 7)) rfl (fun _ => rfl) ?_
  refine P_ld 75 (.ref 181) rfl (fun _ => rfl) ?_
  refine PK_gf 78 (.ref 22) rfl rfl kd_181 rfl rfl rfl ?_
  refine PK_gf 81 (.ref 28) rfl rfl kd_22 rfl rfl rfl ?_
  refine P_ld 83 (.int (i32 v4)) rfl (fun _ => rfl) ?_
  refine P_ifF 90 86 rfl rfl rfl q4 rfl (fun h4 => ?_) (fun h4 => ?_)
  · skip
    refine P_ld 91 (.int (i32 v2)) rfl (fun _ => rfl) ?_
    exact dg_fm_joined_91 w c N D bb v3 7 v2 q3 (l32 7 rfl) q2 m hm (jk [(1, v1), (2, v2), (4, v4)])
  · skip
    refine P_ld 87 (.int (i32 v1)) rfl (fun _ => rfl) ?_
    refine P_goto 91 rfl (fun _ => rfl) ?_
    exact dg_fm_joined_91 w c N D bb v3 7 v1 q3 (l32 7 rfl) q1 m hm (jk [(1, v1), (2, v2), (4, v4)])
def kfl_fm_joined_40 (v1 : Int) (v2 : Int) (v3 : Int) (u0 : Int) (m : mR) : Option (Int × Int × mR) :=
  if u0 = 0 then
    if (m.2 18) v2 = 257 then
      kfl_fm_joined_68 v1 v2 v3 u0 m
    else
      if v3 ≤ 64 then
        some (0, v3, m)
      else
        kfl_fm_joined_68 v1 v2 v3 u0 m
  else
    kfl_fm_joined_68 v1 v2 v3 u0 m
theorem dg_fm_joined_40 (w : wX) (c : Nat → Option am_C) (N D : Nat) (bb : Nat) (v1 : Int) (v2 : Int) (v3 : Int) (u0 : Int) (q1 : R32 v1) (q2 : R32 v2) (q3 : R32 v3) (r0 : R32 u0) (m : mR) (hm : KCn m) (j : Nat → Int) : PP bb w D pm_111 (40, [(0, .ref 181), (1, .int (i32 v1)), (2, .int (i32 v2)), (3, .int (i32 v3))], [.int (i32 u0)], (khp m c, N), 0, 0) (QS (FX1 c N) (kfl_fm_joined_40 v1 v2 v3 u0 m)) := by
  unfold kfl_fm_joined_40
  show PP bb w D pm_111 (40, [(0, .ref 181), (1, .int (i32 v1)), (2, .int (i32 v2)), (3, .int (i32 v3))], [.int (i32 u0)], (khp (mO m [] []) c, N), 0, 0) _
  refine P_sto 42 [(4, .int (i32 u0)), (0, .ref 181), (1, .int (i32 v1)), (2, .int (i32 v2)), (3, .int (i32 v3))] rfl (fun _ => rfl) ?_
  refine P_ld 44 (.int (i32 u0)) rfl (fun _ => rfl) ?_
  refine P_ifE 68 47 rfl rfl rfl r0 rfl (fun h5 => ?_) (fun h5 => ?_)
  · skip
    refine P_ld 48 (.ref 181) rfl (fun _ => rfl) ?_
    refine PK_gf 51 (.ref 22) rfl rfl kd_181 rfl rfl rfl ?_
    refine PK_gf 54 (.ref 23) rfl rfl kd_22 rfl rfl rfl ?_
    refine P_ld 55 (.int (i32 v2)) rfl (fun _ => rfl) ?_
    refine PK_iald2 56 18 (m.2 18) rfl rfl rfl q2 rfl ?_
    refine P_ld 59 (.int (i32 257)) rfl (fun _ => rfl) ?_
    refine P_icF 68 62 rfl rfl rfl (kE_i (KCn_a hm 18) rfl _) (l32 257 rfl) rfl (fun h6 => ?_) (fun h6 => ?_)
    · skip
      refine P_lv (b := [(0, .ref 181), (1, .int (i32 v1)), (2, .int (i32 v2)), (3, .int (i32 v3)), (4, .int (i32 u0))]) rfl rfl ⟨rfl, rfl, rfl, rfl, rfl, trivial⟩ ?_
      exact dg_fm_joined_68 w c N D bb v1 v2 v3 u0 q1 q2 q3 r0 m hm (jk [])
    · skip
      refine P_ld 63 (.int (i32 v3)) rfl (fun _ => rfl) ?_
      refine P_ld 65 (.int (i32 64)) rfl (fun _ => rfl) ?_
      refine P_icF 95 68 rfl rfl rfl q3 (l32 64 rfl) rfl (fun h7 => ?_) (fun h7 => ?_)
      · skip
        refine P_ld 96 (.int (i32 v3)) rfl (fun _ => rfl) ?_
        exact P_rx1 rfl q3 hm
      · skip
        refine P_lv (b := [(0, .ref 181), (1, .int (i32 v1)), (2, .int (i32 v2)), (3, .int (i32 v3)), (4, .int (i32 u0))]) rfl rfl ⟨rfl, rfl, rfl, rfl, rfl, trivial⟩ ?_
        exact dg_fm_joined_68 w c N D bb v1 v2 v3 u0 q1 q2 q3 r0 m hm (jk [])
  · skip
    refine P_lv (b := [(0, .ref 181), (1, .int (i32 v1)), (2, .int (i32 v2)), (3, .int (i32 v3)), (4, .int (i32 u0))]) rfl rfl ⟨rfl, rfl, rfl, rfl, rfl, trivial⟩ ?_
    exact dg_fm_joined_68 w c N D bb v1 v2 v3 u0 q1 q2 q3 r0 m hm (jk [])
def kf_fm_joined (v1 : Int) (v2 : Int) (m : mR) : Option (Int × Int × mR) :=
  if (m.2 18) v1 = 257 then
    kfl_fm_joined_40 v1 v2 (cut (((m.2 22) v1) + ((m.2 22) v2))) 1 m
  else
    kfl_fm_joined_40 v1 v2 (cut (((m.2 22) v1) + ((m.2 22) v2))) 0 m
theorem D_fm_joined (w : wX) (m : mR) (c : Nat → Option am_C) (N D : Nat) (hm : KCn m) (v1 : Int) (v2 : Int) (q1 : R32 v1) (q2 : R32 v2) : PC w D 111 [.ref 181, .int (i32 v1), .int (i32 v2)] (khp m c, N) (QS (FX1 c N) (kf_fm_joined v1 v2 m)) := by
  refine Pc_of (fun D bb => ?_) D
  unfold kf_fm_joined
  show PP bb w D pm_111 (0, [(0, .ref 181), (1, .int (i32 v1)), (2, .int (i32 v2))], [], (khp (mO m [] []) c, N), 0, 0) _
  refine P_ld 1 (.ref 181) rfl (fun _ => rfl) ?_
  refine PK_gf 4 (.ref 22) rfl rfl kd_181 rfl rfl rfl ?_
  refine PK_gf 7 (.ref 27) rfl rfl kd_22 rfl rfl rfl ?_
  refine P_ld 8 (.int (i32 v1)) rfl (fun _ => rfl) ?_
  refine PK_iald2 9 22 (m.2 22) rfl rfl rfl q1 rfl ?_
  refine P_ld 10 (.ref 181) rfl (fun _ => rfl) ?_
  refine PK_gf 13 (.ref 22) rfl rfl kd_181 rfl rfl rfl ?_
  refine PK_gf 16 (.ref 27) rfl rfl kd_22 rfl rfl rfl ?_
  refine P_ld 17 (.int (i32 v2)) rfl (fun _ => rfl) ?_
  refine PK_iald2 18 22 (m.2 22) rfl rfl rfl q2 rfl ?_
  refine P_op 19 (cut (((m.2 22) v1) + ((m.2 22) v2))) _ rfl (fun _ => rfl) o_add ?_
  refine P_sto 20 [(3, .int (i32 (cut (((m.2 22) v1) + ((m.2 22) v2))))), (0, .ref 181), (1, .int (i32 v1)), (2, .int (i32 v2))] rfl (fun _ => rfl) ?_
  refine P_ld 21 (.ref 181) rfl (fun _ => rfl) ?_
  refine PK_gf 24 (.ref 22) rfl rfl kd_181 rfl rfl rfl ?_
  refine PK_gf 27 (.ref 23) rfl rfl kd_22 rfl rfl rfl ?_
  refine P_ld 28 (.int (i32 v1)) rfl (fun _ => rfl) ?_
  refine PK_iald2 29 18 (m.2 18) rfl rfl rfl q1 rfl ?_
  refine P_ld 32 (.int (i32 257)) rfl (fun _ => rfl) ?_
  refine P_icE 39 35 rfl rfl rfl (kE_i (KCn_a hm 18) rfl _) (l32 257 rfl) rfl (fun h8 => ?_) (fun h8 => ?_)
  · skip
    refine P_ld 36 (.int (i32 1)) rfl (fun _ => rfl) ?_
    refine P_goto 40 rfl (fun _ => rfl) ?_
    refine P_lv (b := [(0, .ref 181), (1, .int (i32 v1)), (2, .int (i32 v2)), (3, .int (i32 (cut (((m.2 22) v1) + ((m.2 22) v2)))))]) rfl rfl ⟨rfl, rfl, rfl, rfl, trivial⟩ ?_
    exact dg_fm_joined_40 w c N D bb v1 v2 (cut (((m.2 22) v1) + ((m.2 22) v2))) 1 q1 q2 cut_r (l32 1 rfl) m hm (jk [])
  · skip
    refine P_ld 40 (.int (i32 0)) rfl (fun _ => rfl) ?_
    refine P_lv (b := [(0, .ref 181), (1, .int (i32 v1)), (2, .int (i32 v2)), (3, .int (i32 (cut (((m.2 22) v1) + ((m.2 22) v2)))))]) rfl rfl ⟨rfl, rfl, rfl, rfl, trivial⟩ ?_
    exact dg_fm_joined_40 w c N D bb v1 v2 (cut (((m.2 22) v1) + ((m.2 22) v2))) 0 q1 q2 cut_r (l32 0 rfl) m hm (jk [])
def kfl_fm_closePair_144 (v1 : Int) (v2 : Int) (v3 : Int) (v5 : Int) (m : mR) : Option (Int × Int × mR) :=
  bnd (kf_fm_add v1 v2 v3 v5 ((m.2 23) v2) (mO m [(228, cut ((m.1 228) - 1)), (229, cut ((m.1 229) - 2))] [])) fun y1 =>
  some (0, 0, y1.2)
theorem dg_fm_closePair_144 (w : wX) (c : Nat → Option am_C) (N D : Nat) (bb : Nat) (v1 : Int) (v2 : Int) (v3 : Int) (v5 : Int) (q1 : R32 v1) (q2 : R32 v2) (q3 : R32 v3) (q5 : R32 v5) (m : mR) (hm : KCn m) (j : Nat → Int) : PP bb w D pm_109 (144, [(0, .ref 181), (1, .int (i32 v1)), (2, .int (i32 v2)), (3, .int (i32 v3)), (4, .int (i32 (j 4))), (5, .int (i32 v5))], [], (khp m c, N), 0, 0) (QS (FX0 c N) (kfl_fm_closePair_144 v1 v2 v3 v5 m)) := by
  unfold kfl_fm_closePair_144
  show PP bb w D pm_109 (144, [(0, .ref 181), (1, .int (i32 v1)), (2, .int (i32 v2)), (3, .int (i32 v3)), (4, .int (i32 (j 4))), (5, .int (i32 v5))], [], (khp (mO m [] []) c, N), 0, 0) _
  refine P_ld 145 (.ref 181) rfl (fun _ => rfl) ?_
  refine P_ld 146 (.ref 181) rfl (fun _ => rfl) ?_
  refine PK_gf 149 (.int (i32 (m.1 228))) rfl rfl kd_181 rfl rfl rfl ?_
  refine P_ld 150 (.int (i32 1)) rfl (fun _ => rfl) ?_
  refine P_op 151 (cut ((m.1 228) - 1)) _ rfl (fun _ => rfl) o_sub ?_
  refine PK_pf (l' := [(228, cut ((m.1 228) - 1))]) 154 (cut ((m.1 228) - 1)) rfl rfl kd_181 rfl rfl rfl rfl rfl rfl rfl ?_
  refine P_ld 155 (.ref 181) rfl (fun _ => rfl) ?_
  refine P_ld 156 (.ref 181) rfl (fun _ => rfl) ?_
  refine PK_gf 159 (.int (i32 (m.1 229))) rfl rfl kd_181 rfl rfl rfl ?_
  refine P_ld 160 (.int (i32 2)) rfl (fun _ => rfl) ?_
  refine P_op 161 (cut ((m.1 229) - 2)) _ rfl (fun _ => rfl) o_sub ?_
  refine PK_pf (l' := [(228, cut ((m.1 228) - 1)), (229, cut ((m.1 229) - 2))]) 164 (cut ((m.1 229) - 2)) rfl rfl kd_181 rfl rfl rfl rfl rfl rfl rfl ?_
  refine P_ld 165 (.ref 181) rfl (fun _ => rfl) ?_
  refine P_ld 166 (.int (i32 v1)) rfl (fun _ => rfl) ?_
  refine P_ld 167 (.int (i32 v2)) rfl (fun _ => rfl) ?_
  refine P_ld 168 (.int (i32 v3)) rfl (fun _ => rfl) ?_
  refine P_ld 170 (.int (i32 v5)) rfl (fun _ => rfl) ?_
  refine P_ld 171 (.ref 181) rfl (fun _ => rfl) ?_
  refine PK_gf 174 (.ref 22) rfl rfl kd_181 rfl rfl rfl ?_
  refine PK_gf 177 (.ref 28) rfl rfl kd_22 rfl rfl rfl ?_
  refine P_ld 178 (.int (i32 v2)) rfl (fun _ => rfl) ?_
  refine PK_iald2 179 23 (m.2 23) rfl rfl rfl q2 rfl ?_
  refine P_ck1 182 97 [.ref 181, .int (i32 v1), .int (i32 v2), .int (i32 v3), .int (i32 v5), .int (i32 ((m.2 23) v2))] [] rfl (fun _ => rfl) rfl (D_fm_add w (mO m [(228, cut ((m.1 228) - 1)), (229, cut ((m.1 229) - 2))] []) c N D (KCn_mO hm rfl rfl ⟨(kV_i rfl cut_r), (kV_i rfl cut_r), trivial⟩ trivial) v1 v2 v3 v5 ((m.2 23) v2) q1 q2 q3 q5 (kE_i (KCn_a hm 23) rfl _)) (fun y1 h2 n3 => ?_)
  refine P_pop 183 rfl (fun _ => rfl) ?_
  exact P_rx0 rfl rfl n3
def kfl_fm_closePair_142 (v1 : Int) (v2 : Int) (v3 : Int) (u0 : Int) (m : mR) : Option (Int × Int × mR) :=
  kfl_fm_closePair_144 v1 v2 v3 u0 m
theorem dg_fm_closePair_142 (w : wX) (c : Nat → Option am_C) (N D : Nat) (bb : Nat) (v1 : Int) (v2 : Int) (v3 : Int) (u0 : Int) (q1 : R32 v1) (q2 : R32 v2) (q3 : R32 v3) (r0 : R32 u0) (m : mR) (hm : KCn m) (j : Nat → Int) : PP bb w D pm_109 (142, [(0, .ref 181), (1, .int (i32 v1)), (2, .int (i32 v2)), (3, .int (i32 v3)), (4, .int (i32 (j 4))), (5, .int (i32 (j 5)))], [.int (i32 u0)], (khp m c, N), 0, 0) (QS (FX0 c N) (kfl_fm_closePair_142 v1 v2 v3 u0 m)) := by
  unfold kfl_fm_closePair_142
  show PP bb w D pm_109 (142, [(0, .ref 181), (1, .int (i32 v1)), (2, .int (i32 v2)), (3, .int (i32 v3)), (4, .int (i32 (j 4))), (5, .int (i32 (j 5)))], [.int (i32 u0)], (khp (mO m [] []) c, N), 0, 0) _
  refine P_sto 144 [(5, .int (i32 u0)), (0, .ref 181), (1, .int (i32 v1)), (2, .int (i32 v2)), (3, .int (i32 v3)), (4, .int (i32 (j 4)))] rfl (fun _ => rfl) ?_
  refine P_lv (b := [(0, .ref 181), (1, .int (i32 v1)), (2, .int (i32 v2)), (3, .int (i32 v3)), (4, .int (i32 (j 4))), (5, .int (i32 u0))]) rfl rfl ⟨rfl, rfl, rfl, rfl, rfl, rfl, trivial⟩ ?_
  exact dg_fm_closePair_144 w c N D bb v1 v2 v3 u0 q1 q2 q3 r0 m hm (jk [(4, j 4)])
def kfl_fm_closePair_67 (v1 : Int) (v2 : Int) (v3 : Int) (m : mR) : Option (Int × Int × mR) :=
  bnd (kf_fm_agree v2 (-1) m) fun y4 =>
  if y4.1 = 0 then
    bnd (kf_fm_agree v3 (-1) y4.2.2) fun y7 =>
    if y7.1 = 0 then
      kfl_fm_closePair_144 v1 v2 v3 1 y7.2.2
    else
      some (y7.1, 0, y7.2.2)
  else
    some (y4.1, 0, y4.2.2)
theorem dg_fm_closePair_67 (w : wX) (c : Nat → Option am_C) (N D : Nat) (bb : Nat) (v1 : Int) (v2 : Int) (v3 : Int) (q1 : R32 v1) (q2 : R32 v2) (q3 : R32 v3) (m : mR) (hm : KCn m) (j : Nat → Int) : PP bb w D pm_109 (67, [(0, .ref 181), (1, .int (i32 v1)), (2, .int (i32 v2)), (3, .int (i32 v3)), (4, .int (i32 (j 4))), (5, .int (i32 (j 5)))], [], (khp m c, N), 0, 0) (QS (FX0 c N) (kfl_fm_closePair_67 v1 v2 v3 m)) := by
  unfold kfl_fm_closePair_67
  show PP bb w D pm_109 (67, [(0, .ref 181), (1, .int (i32 v1)), (2, .int (i32 v2)), (3, .int (i32 v3)), (4, .int (i32 (j 4))), (5, .int (i32 (j 5)))], [], (khp (mO m [] []) c, N), 0, 0) _
  refine P_ld 68 (.ref 181) rfl (fun _ => rfl) ?_
  refine P_ld 69 (.int (i32 v2)) rfl (fun _ => rfl) ?_
  refine P_ld 70 (.int (i32 (-1))) rfl (fun _ => rfl) ?_
  refine P_cx0 73 110 [.ref 181, .int (i32 v2), .int (i32 (-1))] [] rfl (fun _ => rfl) rfl rfl (D_fm_agree w m c N D hm v2 (-1) q2 (l32 (-1) rfl)) (fun y x hm e => ⟨_, rfl, hm, Or.inr ⟨x, e, rfl⟩⟩) (fun y4 n6 => ?_)
  refine P_ld 74 (.ref 181) rfl (fun _ => rfl) ?_
  refine P_ld 75 (.int (i32 v3)) rfl (fun _ => rfl) ?_
  refine P_ld 76 (.int (i32 (-1))) rfl (fun _ => rfl) ?_
  refine P_cx0 79 110 [.ref 181, .int (i32 v3), .int (i32 (-1))] [] rfl (fun _ => rfl) rfl rfl (D_fm_agree w y4.2.2 c N D n6 v3 (-1) q3 (l32 (-1) rfl)) (fun y x hm e => ⟨_, rfl, hm, Or.inr ⟨x, e, rfl⟩⟩) (fun y7 n9 => ?_)
  refine P_ld 80 (.int (i32 1)) rfl (fun _ => rfl) ?_
  refine P_sto 82 [(5, .int (i32 1)), (0, .ref 181), (1, .int (i32 v1)), (2, .int (i32 v2)), (3, .int (i32 v3)), (4, .int (i32 (j 4)))] rfl (fun _ => rfl) ?_
  refine P_goto 144 rfl (fun _ => rfl) ?_
  refine P_lv (b := [(0, .ref 181), (1, .int (i32 v1)), (2, .int (i32 v2)), (3, .int (i32 v3)), (4, .int (i32 (j 4))), (5, .int (i32 1))]) rfl rfl ⟨rfl, rfl, rfl, rfl, rfl, rfl, trivial⟩ ?_
  exact dg_fm_closePair_144 w c N D bb v1 v2 v3 1 q1 q2 q3 (l32 1 rfl) y7.2.2 n9 (jk [(4, j 4)])
def kf_fm_closePair (m : mR) : Option (Int × Int × mR) :=
  bnd (kf_fm_levelOf ((m.2 68) (cut ((m.1 228) - 1))) m) fun y10 =>
  if (m.2 68) (cut ((m.1 228) - 1)) = 9766 then
    kfl_fm_closePair_67 ((m.2 68) (cut ((m.1 228) - 1))) ((m.2 70) (cut ((m.1 229) - 2))) ((m.2 70) (cut ((m.1 229) - 1))) m
  else
    if (m.2 68) (cut ((m.1 228) - 1)) = 31868 then
      kfl_fm_closePair_67 ((m.2 68) (cut ((m.1 228) - 1))) ((m.2 70) (cut ((m.1 229) - 2))) ((m.2 70) (cut ((m.1 229) - 1))) m
    else
      if (m.2 68) (cut ((m.1 228) - 1)) = 11051 then
        bnd (kf_fm_joined ((m.2 70) (cut ((m.1 229) - 2))) ((m.2 70) (cut ((m.1 229) - 1))) m) fun y22 =>
        if y22.1 = 0 then
          kfl_fm_closePair_144 ((m.2 68) (cut ((m.1 228) - 1))) ((m.2 70) (cut ((m.1 229) - 2))) ((m.2 70) (cut ((m.1 229) - 1))) y22.2.1 y22.2.2
        else
          some (y22.1, 0, y22.2.2)
      else
        if (m.2 68) (cut ((m.1 228) - 1)) = 15420 then
          kfl_fm_closePair_144 ((m.2 68) (cut ((m.1 228) - 1))) ((m.2 70) (cut ((m.1 229) - 2))) ((m.2 70) (cut ((m.1 229) - 1))) ((m.2 22) ((m.2 70) (cut ((m.1 229) - 2)))) m
        else
          if (m.2 68) (cut ((m.1 228) - 1)) = 15934 then
            kfl_fm_closePair_144 ((m.2 68) (cut ((m.1 228) - 1))) ((m.2 70) (cut ((m.1 229) - 2))) ((m.2 70) (cut ((m.1 229) - 1))) ((m.2 22) ((m.2 70) (cut ((m.1 229) - 2)))) m
          else
            bnd (kf_fm_agree ((m.2 70) (cut ((m.1 229) - 2))) ((m.2 70) (cut ((m.1 229) - 1))) m) fun y18 =>
            if y18.1 = 0 then
              if y10 = 3 then
                kfl_fm_closePair_142 ((m.2 68) (cut ((m.1 228) - 1))) ((m.2 70) (cut ((m.1 229) - 2))) ((m.2 70) (cut ((m.1 229) - 1))) 1 y18.2.2
              else
                kfl_fm_closePair_142 ((m.2 68) (cut ((m.1 228) - 1))) ((m.2 70) (cut ((m.1 229) - 2))) ((m.2 70) (cut ((m.1 229) - 1))) ((y18.2.2.2 22) ((m.2 70) (cut ((m.1 229) - 2)))) y18.2.2
            else
              some (y18.1, 0, y18.2.2)
theorem D_fm_closePair (w : wX) (m : mR) (c : Nat → Option am_C) (N D : Nat) (hm : KCn m) : PC w D 109 [.ref 181] (khp m c, N) (QS (FX0 c N) (kf_fm_closePair m)) := by
  refine Pc_of (fun D bb => ?_) D
  unfold kf_fm_closePair
  show PP bb w D pm_109 (0, [(0, .ref 181)], [], (khp (mO m [] []) c, N), 0, 0) _
  refine P_ld 1 (.ref 181) rfl (fun _ => rfl) ?_
  refine PK_gf 4 (.ref 182) rfl rfl kd_181 rfl rfl rfl ?_
  refine P_ld 5 (.ref 181) rfl (fun _ => rfl) ?_
  refine PK_gf 8 (.int (i32 (m.1 228))) rfl rfl kd_181 rfl rfl rfl ?_
  refine P_ld 9 (.int (i32 1)) rfl (fun _ => rfl) ?_
  refine P_op 10 (cut ((m.1 228) - 1)) _ rfl (fun _ => rfl) o_sub ?_
  refine PK_iald2 11 68 (m.2 68) rfl rfl rfl cut_r rfl ?_
  refine P_sto 12 [(1, .int (i32 ((m.2 68) (cut ((m.1 228) - 1))))), (0, .ref 181)] rfl (fun _ => rfl) ?_
  refine P_ld 13 (.ref 181) rfl (fun _ => rfl) ?_
  refine PK_gf 16 (.ref 184) rfl rfl kd_181 rfl rfl rfl ?_
  refine P_ld 17 (.ref 181) rfl (fun _ => rfl) ?_
  refine PK_gf 20 (.int (i32 (m.1 229))) rfl rfl kd_181 rfl rfl rfl ?_
  refine P_ld 21 (.int (i32 2)) rfl (fun _ => rfl) ?_
  refine P_op 22 (cut ((m.1 229) - 2)) _ rfl (fun _ => rfl) o_sub ?_
  refine PK_iald2 23 70 (m.2 70) rfl rfl rfl cut_r rfl ?_
  refine P_sto 24 [(2, .int (i32 ((m.2 70) (cut ((m.1 229) - 2))))), (1, .int (i32 ((m.2 68) (cut ((m.1 228) - 1))))), (0, .ref 181)] rfl (fun _ => rfl) ?_
  refine P_ld 25 (.ref 181) rfl (fun _ => rfl) ?_
  refine PK_gf 28 (.ref 184) rfl rfl kd_181 rfl rfl rfl ?_
  refine P_ld 29 (.ref 181) rfl (fun _ => rfl) ?_
  refine PK_gf 32 (.int (i32 (m.1 229))) rfl rfl kd_181 rfl rfl rfl ?_
  refine P_ld 33 (.int (i32 1)) rfl (fun _ => rfl) ?_
  refine P_op 34 (cut ((m.1 229) - 1)) _ rfl (fun _ => rfl) o_sub ?_
  refine PK_iald2 35 70 (m.2 70) rfl rfl rfl cut_r rfl ?_
  refine P_sto 36 [(3, .int (i32 ((m.2 70) (cut ((m.1 229) - 1))))), (2, .int (i32 ((m.2 70) (cut ((m.1 229) - 2))))), (1, .int (i32 ((m.2 68) (cut ((m.1 228) - 1))))), (0, .ref 181)] rfl (fun _ => rfl) ?_
  refine P_ld 37 (.int (i32 ((m.2 68) (cut ((m.1 228) - 1))))) rfl (fun _ => rfl) ?_
  refine P_cp1 40 108 [.int (i32 ((m.2 68) (cut ((m.1 228) - 1))))] [] rfl (fun _ => rfl) rfl (D_fm_levelOf w m c N D hm ((m.2 68) (cut ((m.1 228) - 1))) (kE_i (KCn_a hm 68) rfl _)) (fun y10 h11 => ?_)
  refine P_sto 42 [(4, .int (i32 y10)), (3, .int (i32 ((m.2 70) (cut ((m.1 229) - 1))))), (2, .int (i32 ((m.2 70) (cut ((m.1 229) - 2))))), (1, .int (i32 ((m.2 68) (cut ((m.1 228) - 1))))), (0, .ref 181)] rfl (fun _ => rfl) ?_
  refine P_ld 43 (.ref 181) rfl (fun _ => rfl) ?_
  refine PK_gf 46 (.ref 22) rfl rfl kd_181 rfl rfl rfl ?_
  refine PK_gf 49 (.ref 27) rfl rfl kd_22 rfl rfl rfl ?_
  refine P_ld 50 (.int (i32 ((m.2 70) (cut ((m.1 229) - 2))))) rfl (fun _ => rfl) ?_
  refine PK_iald2 51 22 (m.2 22) rfl rfl rfl (kE_i (KCn_a hm 70) rfl _) rfl ?_
  refine P_sto 53 [(5, .int (i32 ((m.2 22) ((m.2 70) (cut ((m.1 229) - 2)))))), (4, .int (i32 y10)), (3, .int (i32 ((m.2 70) (cut ((m.1 229) - 1))))), (2, .int (i32 ((m.2 70) (cut ((m.1 229) - 2))))), (1, .int (i32 ((m.2 68) (cut ((m.1 228) - 1))))), (0, .ref 181)] rfl (fun _ => rfl) ?_
  refine P_ld 54 (.int (i32 ((m.2 68) (cut ((m.1 228) - 1))))) rfl (fun _ => rfl) ?_
  refine P_ld 57 (.int (i32 9766)) rfl (fun _ => rfl) ?_
  refine P_icF 67 60 rfl rfl rfl (kE_i (KCn_a hm 68) rfl _) (l32 9766 rfl) rfl (fun h13 => ?_) (fun h13 => ?_)
  · skip
    refine P_lv (b := [(0, .ref 181), (1, .int (i32 ((m.2 68) (cut ((m.1 228) - 1))))), (2, .int (i32 ((m.2 70) (cut ((m.1 229) - 2))))), (3, .int (i32 ((m.2 70) (cut ((m.1 229) - 1))))), (4, .int (i32 y10)), (5, .int (i32 ((m.2 22) ((m.2 70) (cut ((m.1 229) - 2))))))]) rfl rfl ⟨rfl, rfl, rfl, rfl, rfl, rfl, trivial⟩ ?_
    exact dg_fm_closePair_67 w c N D bb ((m.2 68) (cut ((m.1 228) - 1))) ((m.2 70) (cut ((m.1 229) - 2))) ((m.2 70) (cut ((m.1 229) - 1))) (kE_i (KCn_a hm 68) rfl _) (kE_i (KCn_a hm 70) rfl _) (kE_i (KCn_a hm 70) rfl _) m hm (jk [(4, y10), (5, (m.2 22) ((m.2 70) (cut ((m.1 229) - 2))))])
  · skip
    refine P_ld 61 (.int (i32 ((m.2 68) (cut ((m.1 228) - 1))))) rfl (fun _ => rfl) ?_
    refine P_ld 64 (.int (i32 31868)) rfl (fun _ => rfl) ?_
    refine P_icE 85 67 rfl rfl rfl (kE_i (KCn_a hm 68) rfl _) (l32 31868 rfl) rfl (fun h14 => ?_) (fun h14 => ?_)
    · skip
      refine P_lv (b := [(0, .ref 181), (1, .int (i32 ((m.2 68) (cut ((m.1 228) - 1))))), (2, .int (i32 ((m.2 70) (cut ((m.1 229) - 2))))), (3, .int (i32 ((m.2 70) (cut ((m.1 229) - 1))))), (4, .int (i32 y10)), (5, .int (i32 ((m.2 22) ((m.2 70) (cut ((m.1 229) - 2))))))]) rfl rfl ⟨rfl, rfl, rfl, rfl, rfl, rfl, trivial⟩ ?_
      exact dg_fm_closePair_67 w c N D bb ((m.2 68) (cut ((m.1 228) - 1))) ((m.2 70) (cut ((m.1 229) - 2))) ((m.2 70) (cut ((m.1 229) - 1))) (kE_i (KCn_a hm 68) rfl _) (kE_i (KCn_a hm 70) rfl _) (kE_i (KCn_a hm 70) rfl _) m hm (jk [(4, y10), (5, (m.2 22) ((m.2 70) (cut ((m.1 229) - 2))))])
    · skip
      refine P_ld 86 (.int (i32 ((m.2 68) (cut ((m.1 228) - 1))))) rfl (fun _ => rfl) ?_
      refine P_ld 89 (.int (i32 11051)) rfl (fun _ => rfl) ?_
      refine P_icE 103 92 rfl rfl rfl (kE_i (KCn_a hm 68) rfl _) (l32 11051 rfl) rfl (fun h15 => ?_) (fun h15 => ?_)
      · skip
        refine P_ld 93 (.ref 181) rfl (fun _ => rfl) ?_
        refine P_ld 94 (.int (i32 ((m.2 70) (cut ((m.1 229) - 2))))) rfl (fun _ => rfl) ?_
        refine P_ld 95 (.int (i32 ((m.2 70) (cut ((m.1 229) - 1))))) rfl (fun _ => rfl) ?_
        refine P_cx1 98 111 [.ref 181, .int (i32 ((m.2 70) (cut ((m.1 229) - 2)))), .int (i32 ((m.2 70) (cut ((m.1 229) - 1))))] [] rfl (fun _ => rfl) rfl rfl (D_fm_joined w m c N D hm ((m.2 70) (cut ((m.1 229) - 2))) ((m.2 70) (cut ((m.1 229) - 1))) (kE_i (KCn_a hm 70) rfl _) (kE_i (KCn_a hm 70) rfl _)) (fun y x hm e => ⟨_, rfl, hm, Or.inr ⟨x, e, rfl⟩⟩) (fun y22 h23 n24 => ?_)
        refine P_sto 100 [(5, .int (i32 y22.2.1)), (4, .int (i32 y10)), (3, .int (i32 ((m.2 70) (cut ((m.1 229) - 1))))), (2, .int (i32 ((m.2 70) (cut ((m.1 229) - 2))))), (1, .int (i32 ((m.2 68) (cut ((m.1 228) - 1))))), (0, .ref 181)] rfl (fun _ => rfl) ?_
        refine P_goto 144 rfl (fun _ => rfl) ?_
        refine P_lv (b := [(0, .ref 181), (1, .int (i32 ((m.2 68) (cut ((m.1 228) - 1))))), (2, .int (i32 ((m.2 70) (cut ((m.1 229) - 2))))), (3, .int (i32 ((m.2 70) (cut ((m.1 229) - 1))))), (4, .int (i32 y10)), (5, .int (i32 y22.2.1))]) rfl rfl ⟨rfl, rfl, rfl, rfl, rfl, rfl, trivial⟩ ?_
        exact dg_fm_closePair_144 w c N D bb ((m.2 68) (cut ((m.1 228) - 1))) ((m.2 70) (cut ((m.1 229) - 2))) ((m.2 70) (cut ((m.1 229) - 1))) y22.2.1 (kE_i (KCn_a hm 68) rfl _) (kE_i (KCn_a hm 70) rfl _) (kE_i (KCn_a hm 70) rfl _) h23 y22.2.2 n24 (jk [(4, y10)])
      · skip
        refine P_ld 104 (.int (i32 ((m.2 68) (cut ((m.1 228) - 1))))) rfl (fun _ => rfl) ?_
        refine P_ld 107 (.int (i32 15420)) rfl (fun _ => rfl) ?_
        refine P_icF 144 110 rfl rfl rfl (kE_i (KCn_a hm 68) rfl _) (l32 15420 rfl) rfl (fun h16 => ?_) (fun h16 => ?_)
        · skip
          refine P_lv (b := [(0, .ref 181), (1, .int (i32 ((m.2 68) (cut ((m.1 228) - 1))))), (2, .int (i32 ((m.2 70) (cut ((m.1 229) - 2))))), (3, .int (i32 ((m.2 70) (cut ((m.1 229) - 1))))), (4, .int (i32 y10)), (5, .int (i32 ((m.2 22) ((m.2 70) (cut ((m.1 229) - 2))))))]) rfl rfl ⟨rfl, rfl, rfl, rfl, rfl, rfl, trivial⟩ ?_
          exact dg_fm_closePair_144 w c N D bb ((m.2 68) (cut ((m.1 228) - 1))) ((m.2 70) (cut ((m.1 229) - 2))) ((m.2 70) (cut ((m.1 229) - 1))) ((m.2 22) ((m.2 70) (cut ((m.1 229) - 2)))) (kE_i (KCn_a hm 68) rfl _) (kE_i (KCn_a hm 70) rfl _) (kE_i (KCn_a hm 70) rfl _) (kE_i (KCn_a hm 22) rfl _) m hm (jk [(4, y10)])
        · skip
          refine P_ld 111 (.int (i32 ((m.2 68) (cut ((m.1 228) - 1))))) rfl (fun _ => rfl) ?_
          refine P_ld 114 (.int (i32 15934)) rfl (fun _ => rfl) ?_
          refine P_icF 144 117 rfl rfl rfl (kE_i (KCn_a hm 68) rfl _) (l32 15934 rfl) rfl (fun h17 => ?_) (fun h17 => ?_)
          · skip
            refine P_lv (b := [(0, .ref 181), (1, .int (i32 ((m.2 68) (cut ((m.1 228) - 1))))), (2, .int (i32 ((m.2 70) (cut ((m.1 229) - 2))))), (3, .int (i32 ((m.2 70) (cut ((m.1 229) - 1))))), (4, .int (i32 y10)), (5, .int (i32 ((m.2 22) ((m.2 70) (cut ((m.1 229) - 2))))))]) rfl rfl ⟨rfl, rfl, rfl, rfl, rfl, rfl, trivial⟩ ?_
            exact dg_fm_closePair_144 w c N D bb ((m.2 68) (cut ((m.1 228) - 1))) ((m.2 70) (cut ((m.1 229) - 2))) ((m.2 70) (cut ((m.1 229) - 1))) ((m.2 22) ((m.2 70) (cut ((m.1 229) - 2)))) (kE_i (KCn_a hm 68) rfl _) (kE_i (KCn_a hm 70) rfl _) (kE_i (KCn_a hm 70) rfl _) (kE_i (KCn_a hm 22) rfl _) m hm (jk [(4, y10)])
          · skip
            refine P_ld 118 (.ref 181) rfl (fun _ => rfl) ?_
            refine P_ld 119 (.int (i32 ((m.2 70) (cut ((m.1 229) - 2))))) rfl (fun _ => rfl) ?_
            refine P_ld 120 (.int (i32 ((m.2 70) (cut ((m.1 229) - 1))))) rfl (fun _ => rfl) ?_
            refine P_cx0 123 110 [.ref 181, .int (i32 ((m.2 70) (cut ((m.1 229) - 2)))), .int (i32 ((m.2 70) (cut ((m.1 229) - 1))))] [] rfl (fun _ => rfl) rfl rfl (D_fm_agree w m c N D hm ((m.2 70) (cut ((m.1 229) - 2))) ((m.2 70) (cut ((m.1 229) - 1))) (kE_i (KCn_a hm 70) rfl _) (kE_i (KCn_a hm 70) rfl _)) (fun y x hm e => ⟨_, rfl, hm, Or.inr ⟨x, e, rfl⟩⟩) (fun y18 n20 => ?_)
            refine P_ld 125 (.int (i32 y10)) rfl (fun _ => rfl) ?_
            refine P_ld 126 (.int (i32 3)) rfl (fun _ => rfl) ?_
            refine P_icE 133 129 rfl rfl rfl h11 (l32 3 rfl) rfl (fun h21 => ?_) (fun h21 => ?_)
            · skip
              refine P_ld 130 (.int (i32 1)) rfl (fun _ => rfl) ?_
              refine P_goto 142 rfl (fun _ => rfl) ?_
              refine P_lv (b := [(0, .ref 181), (1, .int (i32 ((m.2 68) (cut ((m.1 228) - 1))))), (2, .int (i32 ((m.2 70) (cut ((m.1 229) - 2))))), (3, .int (i32 ((m.2 70) (cut ((m.1 229) - 1))))), (4, .int (i32 y10)), (5, .int (i32 ((m.2 22) ((m.2 70) (cut ((m.1 229) - 2))))))]) rfl rfl ⟨rfl, rfl, rfl, rfl, rfl, rfl, trivial⟩ ?_
              exact dg_fm_closePair_142 w c N D bb ((m.2 68) (cut ((m.1 228) - 1))) ((m.2 70) (cut ((m.1 229) - 2))) ((m.2 70) (cut ((m.1 229) - 1))) 1 (kE_i (KCn_a hm 68) rfl _) (kE_i (KCn_a hm 70) rfl _) (kE_i (KCn_a hm 70) rfl _) (l32 1 rfl) y18.2.2 n20 (jk [(4, y10), (5, (m.2 22) ((m.2 70) (cut ((m.1 229) - 2))))])
            · skip
              refine P_ld 134 (.ref 181) rfl (fun _ => rfl) ?_
              refine PK_gf 137 (.ref 22) rfl rfl kd_181 rfl rfl rfl ?_
              refine PK_gf 140 (.ref 27) rfl rfl kd_22 rfl rfl rfl ?_
              refine P_ld 141 (.int (i32 ((m.2 70) (cut ((m.1 229) - 2))))) rfl (fun _ => rfl) ?_
              refine PK_iald2 142 22 (y18.2.2.2 22) rfl rfl rfl (kE_i (KCn_a hm 70) rfl _) rfl ?_
              refine P_lv (b := [(0, .ref 181), (1, .int (i32 ((m.2 68) (cut ((m.1 228) - 1))))), (2, .int (i32 ((m.2 70) (cut ((m.1 229) - 2))))), (3, .int (i32 ((m.2 70) (cut ((m.1 229) - 1))))), (4, .int (i32 y10)), (5, .int (i32 ((m.2 22) ((m.2 70) (cut ((m.1 229) - 2))))))]) rfl rfl ⟨rfl, rfl, rfl, rfl, rfl, rfl, trivial⟩ ?_
              exact dg_fm_closePair_142 w c N D bb ((m.2 68) (cut ((m.1 228) - 1))) ((m.2 70) (cut ((m.1 229) - 2))) ((m.2 70) (cut ((m.1 229) - 1))) ((y18.2.2.2 22) ((m.2 70) (cut ((m.1 229) - 2)))) (kE_i (KCn_a hm 68) rfl _) (kE_i (KCn_a hm 70) rfl _) (kE_i (KCn_a hm 70) rfl _) (kE_i (KCn_a n20 22) rfl _) y18.2.2 n20 (jk [(4, y10), (5, (m.2 22) ((m.2 70) (cut ((m.1 229) - 2))))])
def kfl_fm_isSingle_24 (u0 : Int) (m : mR) : Option Int :=
  some u0
theorem dg_fm_isSingle_24 (w : wX) (c : Nat → Option am_C) (N D : Nat) (bb : Nat) (u0 : Int) (r0 : R32 u0) (m : mR) (hm : KCn m) (j : Nat → Int) : PP bb w D pm_105 (24, [(0, .int (i32 (j 0)))], [.int (i32 u0)], (khp m c, N), 0, 0) (QS (FP1 (khp m c, N)) (kfl_fm_isSingle_24 u0 m)) := by
  unfold kfl_fm_isSingle_24
  show PP bb w D pm_105 (24, [(0, .int (i32 (j 0)))], [.int (i32 u0)], (khp (mO m [] []) c, N), 0, 0) _
  exact P_rp1 rfl r0
def kfl_fm_isSingle_19 (m : mR) : Option Int :=
  kfl_fm_isSingle_24 1 m
theorem dg_fm_isSingle_19 (w : wX) (c : Nat → Option am_C) (N D : Nat) (bb : Nat) (m : mR) (hm : KCn m) (j : Nat → Int) : PP bb w D pm_105 (19, [(0, .int (i32 (j 0)))], [], (khp m c, N), 0, 0) (QS (FP1 (khp m c, N)) (kfl_fm_isSingle_19 m)) := by
  unfold kfl_fm_isSingle_19
  show PP bb w D pm_105 (19, [(0, .int (i32 (j 0)))], [], (khp (mO m [] []) c, N), 0, 0) _
  refine P_ld 20 (.int (i32 1)) rfl (fun _ => rfl) ?_
  refine P_goto 24 rfl (fun _ => rfl) ?_
  exact dg_fm_isSingle_24 w c N D bb 1 (l32 1 rfl) m hm (jk [(0, j 0)])
def kf_fm_isSingle (v0 : Int) (m : mR) : Option Int :=
  if v0 = 405 then
    kfl_fm_isSingle_19 m
  else
    if v0 = 126 then
      kfl_fm_isSingle_19 m
    else
      if v0 = 33 then
        kfl_fm_isSingle_19 m
      else
        kfl_fm_isSingle_24 0 m
theorem D_fm_isSingle (w : wX) (m : mR) (c : Nat → Option am_C) (N D : Nat) (hm : KCn m) (v0 : Int) (q0 : R32 v0) : PC w D 105 [.int (i32 v0)] (khp m c, N) (QS (FP1 (khp m c, N)) (kf_fm_isSingle v0 m)) := by
  refine Pc_of (fun D bb => ?_) D
  unfold kf_fm_isSingle
  show PP bb w D pm_105 (0, [(0, .int (i32 v0))], [], (khp (mO m [] []) c, N), 0, 0) _
  refine P_ld 1 (.int (i32 v0)) rfl (fun _ => rfl) ?_
  refine P_ld 4 (.int (i32 405)) rfl (fun _ => rfl) ?_
  refine P_icF 19 7 rfl rfl rfl q0 (l32 405 rfl) rfl (fun h1 => ?_) (fun h1 => ?_)
  · skip
    exact dg_fm_isSingle_19 w c N D bb m hm (jk [(0, v0)])
  · skip
    refine P_ld 8 (.int (i32 v0)) rfl (fun _ => rfl) ?_
    refine P_ld 10 (.int (i32 126)) rfl (fun _ => rfl) ?_
    refine P_icF 19 13 rfl rfl rfl q0 (l32 126 rfl) rfl (fun h2 => ?_) (fun h2 => ?_)
    · skip
      exact dg_fm_isSingle_19 w c N D bb m hm (jk [(0, v0)])
    · skip
      refine P_ld 14 (.int (i32 v0)) rfl (fun _ => rfl) ?_
      refine P_ld 16 (.int (i32 33)) rfl (fun _ => rfl) ?_
      refine P_icE 23 19 rfl rfl rfl q0 (l32 33 rfl) rfl (fun h3 => ?_) (fun h3 => ?_)
      · skip
        exact dg_fm_isSingle_19 w c N D bb m hm (jk [(0, v0)])
      · skip
        refine P_ld 24 (.int (i32 0)) rfl (fun _ => rfl) ?_
        exact dg_fm_isSingle_24 w c N D bb 0 (l32 0 rfl) m hm (jk [(0, v0)])
def kfl_fm_closeSingle_74 (v1 : Int) (v2 : Int) (v3 : Int) (m : mR) : Option (Int × Int × mR) :=
  bnd (kf_fm_add v1 v2 0 v3 ((m.2 69) (cut ((m.1 228) - 1))) (mO m [(228, cut ((m.1 228) - 1)), (229, cut ((m.1 229) - 1)), (230, cut ((m.1 230) - 1))] [])) fun y1 =>
  some (0, 0, y1.2)
theorem dg_fm_closeSingle_74 (w : wX) (c : Nat → Option am_C) (N D : Nat) (bb : Nat) (v1 : Int) (v2 : Int) (v3 : Int) (q1 : R32 v1) (q2 : R32 v2) (q3 : R32 v3) (m : mR) (hm : KCn m) (j : Nat → Int) : PP bb w D pm_106 (74, [(0, .ref 181), (1, .int (i32 v1)), (2, .int (i32 v2)), (3, .int (i32 v3))], [], (khp m c, N), 0, 0) (QS (FX0 c N) (kfl_fm_closeSingle_74 v1 v2 v3 m)) := by
  unfold kfl_fm_closeSingle_74
  show PP bb w D pm_106 (74, [(0, .ref 181), (1, .int (i32 v1)), (2, .int (i32 v2)), (3, .int (i32 v3))], [], (khp (mO m [] []) c, N), 0, 0) _
  refine P_ld 75 (.ref 181) rfl (fun _ => rfl) ?_
  refine P_ld 76 (.ref 181) rfl (fun _ => rfl) ?_
  refine PK_gf 79 (.int (i32 (m.1 228))) rfl rfl kd_181 rfl rfl rfl ?_
  refine P_ld 80 (.int (i32 1)) rfl (fun _ => rfl) ?_
  refine P_op 81 (cut ((m.1 228) - 1)) _ rfl (fun _ => rfl) o_sub ?_
  refine PK_pf (l' := [(228, cut ((m.1 228) - 1))]) 84 (cut ((m.1 228) - 1)) rfl rfl kd_181 rfl rfl rfl rfl rfl rfl rfl ?_
  refine P_ld 85 (.ref 181) rfl (fun _ => rfl) ?_
  refine P_ld 86 (.ref 181) rfl (fun _ => rfl) ?_
  refine PK_gf 89 (.int (i32 (m.1 230))) rfl rfl kd_181 rfl rfl rfl ?_
  refine P_ld 90 (.int (i32 1)) rfl (fun _ => rfl) ?_
  refine P_op 91 (cut ((m.1 230) - 1)) _ rfl (fun _ => rfl) o_sub ?_
  refine PK_pf (l' := [(228, cut ((m.1 228) - 1)), (230, cut ((m.1 230) - 1))]) 94 (cut ((m.1 230) - 1)) rfl rfl kd_181 rfl rfl rfl rfl rfl rfl rfl ?_
  refine P_ld 95 (.ref 181) rfl (fun _ => rfl) ?_
  refine P_ld 96 (.ref 181) rfl (fun _ => rfl) ?_
  refine PK_gf 99 (.int (i32 (m.1 229))) rfl rfl kd_181 rfl rfl rfl ?_
  refine P_ld 100 (.int (i32 1)) rfl (fun _ => rfl) ?_
  refine P_op 101 (cut ((m.1 229) - 1)) _ rfl (fun _ => rfl) o_sub ?_
  refine PK_pf (l' := [(228, cut ((m.1 228) - 1)), (229, cut ((m.1 229) - 1)), (230, cut ((m.1 230) - 1))]) 104 (cut ((m.1 229) - 1)) rfl rfl kd_181 rfl rfl rfl rfl rfl rfl rfl ?_
  refine P_ld 105 (.ref 181) rfl (fun _ => rfl) ?_
  refine P_ld 106 (.int (i32 v1)) rfl (fun _ => rfl) ?_
  refine P_ld 107 (.int (i32 v2)) rfl (fun _ => rfl) ?_
  refine P_ld 108 (.int (i32 0)) rfl (fun _ => rfl) ?_
  refine P_ld 109 (.int (i32 v3)) rfl (fun _ => rfl) ?_
  refine P_ld 110 (.ref 181) rfl (fun _ => rfl) ?_
  refine PK_gf 113 (.ref 183) rfl rfl kd_181 rfl rfl rfl ?_
  refine P_ld 114 (.ref 181) rfl (fun _ => rfl) ?_
  refine PK_gf 117 (.int (i32 (cut ((m.1 228) - 1)))) rfl rfl kd_181 rfl rfl rfl ?_
  refine PK_iald2 118 69 (m.2 69) rfl rfl rfl cut_r rfl ?_
  refine P_ck1 121 97 [.ref 181, .int (i32 v1), .int (i32 v2), .int (i32 0), .int (i32 v3), .int (i32 ((m.2 69) (cut ((m.1 228) - 1))))] [] rfl (fun _ => rfl) rfl (D_fm_add w (mO m [(228, cut ((m.1 228) - 1)), (229, cut ((m.1 229) - 1)), (230, cut ((m.1 230) - 1))] []) c N D (KCn_mO hm rfl rfl ⟨(kV_i rfl cut_r), (kV_i rfl cut_r), (kV_i rfl cut_r), trivial⟩ trivial) v1 v2 0 v3 ((m.2 69) (cut ((m.1 228) - 1))) q1 q2 (l32 0 rfl) q3 (kE_i (KCn_a hm 69) rfl _)) (fun y1 h2 n3 => ?_)
  refine P_pop 122 rfl (fun _ => rfl) ?_
  exact P_rx0 rfl rfl n3
def kfl_fm_closeSingle_43 (v1 : Int) (v2 : Int) (u0 : Int) (m : mR) : Option (Int × Int × mR) :=
  bnd (kf_nd_fits v2 u0 m) fun y4 =>
  if y4.1 = 0 then
    bnd (kf_tx_fail 7 ((y4.2.2 23) v2) y4.2) fun y8 =>
    if y8.1 = 0 then
      kfl_fm_closeSingle_74 v1 v2 u0 y8.2.2
    else
      some (y8.1, 0, y8.2.2)
  else
    kfl_fm_closeSingle_74 v1 v2 u0 y4.2
theorem dg_fm_closeSingle_43 (w : wX) (c : Nat → Option am_C) (N D : Nat) (bb : Nat) (v1 : Int) (v2 : Int) (u0 : Int) (q1 : R32 v1) (q2 : R32 v2) (r0 : R32 u0) (m : mR) (hm : KCn m) (j : Nat → Int) : PP bb w D pm_106 (43, [(0, .ref 181), (1, .int (i32 v1)), (2, .int (i32 v2))], [.int (i32 u0)], (khp m c, N), 0, 0) (QS (FX0 c N) (kfl_fm_closeSingle_43 v1 v2 u0 m)) := by
  unfold kfl_fm_closeSingle_43
  show PP bb w D pm_106 (43, [(0, .ref 181), (1, .int (i32 v1)), (2, .int (i32 v2))], [.int (i32 u0)], (khp (mO m [] []) c, N), 0, 0) _
  refine P_sto 44 [(3, .int (i32 u0)), (0, .ref 181), (1, .int (i32 v1)), (2, .int (i32 v2))] rfl (fun _ => rfl) ?_
  refine P_ld 45 (.ref 181) rfl (fun _ => rfl) ?_
  refine PK_gf 48 (.ref 22) rfl rfl kd_181 rfl rfl rfl ?_
  refine P_ld 49 (.int (i32 v2)) rfl (fun _ => rfl) ?_
  refine P_ld 50 (.int (i32 u0)) rfl (fun _ => rfl) ?_
  refine P_ck1 53 107 [.ref 22, .int (i32 v2), .int (i32 u0)] [] rfl (fun _ => rfl) rfl (D_nd_fits w m c N D hm v2 u0 q2 r0) (fun y4 h5 n6 => ?_)
  refine P_ifE 74 56 rfl rfl rfl h5 rfl (fun h7 => ?_) (fun h7 => ?_)
  · skip
    refine P_ld 57 (.ref 181) rfl (fun _ => rfl) ?_
    refine PK_gf 60 (.ref 6) rfl rfl kd_181 rfl rfl rfl ?_
    refine P_ld 62 (.int (i32 7)) rfl (fun _ => rfl) ?_
    refine P_ld 63 (.ref 181) rfl (fun _ => rfl) ?_
    refine PK_gf 66 (.ref 22) rfl rfl kd_181 rfl rfl rfl ?_
    refine PK_gf 69 (.ref 28) rfl rfl kd_22 rfl rfl rfl ?_
    refine P_ld 70 (.int (i32 v2)) rfl (fun _ => rfl) ?_
    refine PK_iald2 71 23 (y4.2.2 23) rfl rfl rfl q2 rfl ?_
    refine P_cx0 74 51 [.ref 6, .int (i32 7), .int (i32 ((y4.2.2 23) v2))] [] rfl (fun _ => rfl) rfl rfl (D_tx_fail w y4.2 c N D n6 7 ((y4.2.2 23) v2) (l32 7 rfl) (kE_i (KCn_a n6 23) rfl _)) (fun y x hm e => ⟨_, rfl, hm, Or.inr ⟨x, e, rfl⟩⟩) (fun y8 n10 => ?_)
    refine P_lv (b := [(0, .ref 181), (1, .int (i32 v1)), (2, .int (i32 v2)), (3, .int (i32 u0))]) rfl rfl ⟨rfl, rfl, rfl, rfl, trivial⟩ ?_
    exact dg_fm_closeSingle_74 w c N D bb v1 v2 u0 q1 q2 r0 y8.2.2 n10 (jk [])
  · skip
    refine P_lv (b := [(0, .ref 181), (1, .int (i32 v1)), (2, .int (i32 v2)), (3, .int (i32 u0))]) rfl rfl ⟨rfl, rfl, rfl, rfl, trivial⟩ ?_
    exact dg_fm_closeSingle_74 w c N D bb v1 v2 u0 q1 q2 r0 y4.2 n6 (jk [])
def kf_fm_closeSingle (m : mR) : Option (Int × Int × mR) :=
  if (m.2 68) (cut ((m.1 228) - 1)) = 33 then
    kfl_fm_closeSingle_43 ((m.2 68) (cut ((m.1 228) - 1))) ((m.2 70) (cut ((m.1 229) - 1))) 1 m
  else
    kfl_fm_closeSingle_43 ((m.2 68) (cut ((m.1 228) - 1))) ((m.2 70) (cut ((m.1 229) - 1))) ((m.2 22) ((m.2 70) (cut ((m.1 229) - 1)))) m
theorem D_fm_closeSingle (w : wX) (m : mR) (c : Nat → Option am_C) (N D : Nat) (hm : KCn m) : PC w D 106 [.ref 181] (khp m c, N) (QS (FX0 c N) (kf_fm_closeSingle m)) := by
  refine Pc_of (fun D bb => ?_) D
  unfold kf_fm_closeSingle
  show PP bb w D pm_106 (0, [(0, .ref 181)], [], (khp (mO m [] []) c, N), 0, 0) _
  refine P_ld 1 (.ref 181) rfl (fun _ => rfl) ?_
  refine PK_gf 4 (.ref 182) rfl rfl kd_181 rfl rfl rfl ?_
  refine P_ld 5 (.ref 181) rfl (fun _ => rfl) ?_
  refine PK_gf 8 (.int (i32 (m.1 228))) rfl rfl kd_181 rfl rfl rfl ?_
  refine P_ld 9 (.int (i32 1)) rfl (fun _ => rfl) ?_
  refine P_op 10 (cut ((m.1 228) - 1)) _ rfl (fun _ => rfl) o_sub ?_
  refine PK_iald2 11 68 (m.2 68) rfl rfl rfl cut_r rfl ?_
  refine P_sto 12 [(1, .int (i32 ((m.2 68) (cut ((m.1 228) - 1))))), (0, .ref 181)] rfl (fun _ => rfl) ?_
  refine P_ld 13 (.ref 181) rfl (fun _ => rfl) ?_
  refine PK_gf 16 (.ref 184) rfl rfl kd_181 rfl rfl rfl ?_
  refine P_ld 17 (.ref 181) rfl (fun _ => rfl) ?_
  refine PK_gf 20 (.int (i32 (m.1 229))) rfl rfl kd_181 rfl rfl rfl ?_
  refine P_ld 21 (.int (i32 1)) rfl (fun _ => rfl) ?_
  refine P_op 22 (cut ((m.1 229) - 1)) _ rfl (fun _ => rfl) o_sub ?_
  refine PK_iald2 23 70 (m.2 70) rfl rfl rfl cut_r rfl ?_
  refine P_sto 24 [(2, .int (i32 ((m.2 70) (cut ((m.1 229) - 1))))), (1, .int (i32 ((m.2 68) (cut ((m.1 228) - 1))))), (0, .ref 181)] rfl (fun _ => rfl) ?_
  refine P_ld 25 (.int (i32 ((m.2 68) (cut ((m.1 228) - 1))))) rfl (fun _ => rfl) ?_
  refine P_ld 27 (.int (i32 33)) rfl (fun _ => rfl) ?_
  refine P_icE 34 30 rfl rfl rfl (kE_i (KCn_a hm 68) rfl _) (l32 33 rfl) rfl (fun h11 => ?_) (fun h11 => ?_)
  · skip
    refine P_ld 31 (.int (i32 1)) rfl (fun _ => rfl) ?_
    refine P_goto 43 rfl (fun _ => rfl) ?_
    refine P_lv (b := [(0, .ref 181), (1, .int (i32 ((m.2 68) (cut ((m.1 228) - 1))))), (2, .int (i32 ((m.2 70) (cut ((m.1 229) - 1)))))]) rfl rfl ⟨rfl, rfl, rfl, trivial⟩ ?_
    exact dg_fm_closeSingle_43 w c N D bb ((m.2 68) (cut ((m.1 228) - 1))) ((m.2 70) (cut ((m.1 229) - 1))) 1 (kE_i (KCn_a hm 68) rfl _) (kE_i (KCn_a hm 70) rfl _) (l32 1 rfl) m hm (jk [])
  · skip
    refine P_ld 35 (.ref 181) rfl (fun _ => rfl) ?_
    refine PK_gf 38 (.ref 22) rfl rfl kd_181 rfl rfl rfl ?_
    refine PK_gf 41 (.ref 27) rfl rfl kd_22 rfl rfl rfl ?_
    refine P_ld 42 (.int (i32 ((m.2 70) (cut ((m.1 229) - 1))))) rfl (fun _ => rfl) ?_
    refine PK_iald2 43 22 (m.2 22) rfl rfl rfl (kE_i (KCn_a hm 70) rfl _) rfl ?_
    refine P_lv (b := [(0, .ref 181), (1, .int (i32 ((m.2 68) (cut ((m.1 228) - 1))))), (2, .int (i32 ((m.2 70) (cut ((m.1 229) - 1)))))]) rfl rfl ⟨rfl, rfl, rfl, trivial⟩ ?_
    exact dg_fm_closeSingle_43 w c N D bb ((m.2 68) (cut ((m.1 228) - 1))) ((m.2 70) (cut ((m.1 229) - 1))) ((m.2 22) ((m.2 70) (cut ((m.1 229) - 1)))) (kE_i (KCn_a hm 68) rfl _) (kE_i (KCn_a hm 70) rfl _) (kE_i (KCn_a hm 22) rfl _) m hm (jk [])
end X28H
