noncomputable section X28E
def kfl_tx_known_35 (v2 : Int) (m : mR) : Option (Int × Int × mR) :=
  bnd (kf_tx_advance m) fun y1 =>
  if y1.1 = 0 then
    some (0, v2, y1.2.2)
  else
    some (y1.1, 0, y1.2.2)
theorem dg_tx_known_35 (w : wX) (c : Nat → Option am_C) (N D : Nat) (bb : Nat) (v2 : Int) (q2 : R32 v2) (m : mR) (hm : KCn m) (j : Nat → Int) : PP bb w D pm_83 (35, [(0, .ref 6), (1, .int (i32 (j 1))), (2, .int (i32 v2))], [], (khp m c, N), 0, 0) (QS (FX1 c N) (kfl_tx_known_35 v2 m)) := by
  unfold kfl_tx_known_35
  show PP bb w D pm_83 (35, [(0, .ref 6), (1, .int (i32 (j 1))), (2, .int (i32 v2))], [], (khp (mO m [] []) c, N), 0, 0) _
  refine P_ld 36 (.ref 6) rfl (fun _ => rfl) ?_
  refine P_cx0 39 50 [.ref 6] [] rfl (fun _ => rfl) rfl rfl (D_tx_advance w m c N D hm) (fun y x hm e => ⟨_, rfl, hm, Or.inr ⟨x, e, rfl⟩⟩) (fun y1 n3 => ?_)
  refine P_ld 40 (.int (i32 v2)) rfl (fun _ => rfl) ?_
  exact P_rx1 rfl q2 n3
def kfl_tx_known_14 (v1 : Int) (m : mR) : Option (Int × Int × mR) :=
  bnd (kf_tx_indexOf v1 m) fun y4 =>
  if y4 = (-1) then
    bnd (kf_tx_fail 6 (m.1 207) m) fun y8 =>
    if y8.1 = 0 then
      kfl_tx_known_35 y4 y8.2.2
    else
      some (y8.1, 0, y8.2.2)
  else
    kfl_tx_known_35 y4 m
theorem dg_tx_known_14 (w : wX) (c : Nat → Option am_C) (N D : Nat) (bb : Nat) (v1 : Int) (q1 : R32 v1) (m : mR) (hm : KCn m) (j : Nat → Int) : PP bb w D pm_83 (14, [(0, .ref 6), (1, .int (i32 v1))], [], (khp m c, N), 0, 0) (QS (FX1 c N) (kfl_tx_known_14 v1 m)) := by
  unfold kfl_tx_known_14
  show PP bb w D pm_83 (14, [(0, .ref 6), (1, .int (i32 v1))], [], (khp (mO m [] []) c, N), 0, 0) _
  refine P_ld 15 (.ref 6) rfl (fun _ => rfl) ?_
  refine P_ld 16 (.int (i32 v1)) rfl (fun _ => rfl) ?_
  refine P_cp1 19 84 [.ref 6, .int (i32 v1)] [] rfl (fun _ => rfl) rfl (D_tx_indexOf w m c N D hm v1 q1) (fun y4 h5 => ?_)
  refine P_sto 20 [(2, .int (i32 y4)), (0, .ref 6), (1, .int (i32 v1))] rfl (fun _ => rfl) ?_
  refine P_ld 21 (.int (i32 y4)) rfl (fun _ => rfl) ?_
  refine P_ld 22 (.int (i32 (-1))) rfl (fun _ => rfl) ?_
  refine P_icE 35 25 rfl rfl rfl h5 (l32 (-1) rfl) rfl (fun h7 => ?_) (fun h7 => ?_)
  · skip
    refine P_ld 26 (.ref 6) rfl (fun _ => rfl) ?_
    refine P_ld 28 (.int (i32 6)) rfl (fun _ => rfl) ?_
    refine P_ld 29 (.ref 6) rfl (fun _ => rfl) ?_
    refine PK_gf 32 (.int (i32 (m.1 207))) rfl rfl kd_6 rfl rfl rfl ?_
    refine P_cx0 35 51 [.ref 6, .int (i32 6), .int (i32 (m.1 207))] [] rfl (fun _ => rfl) rfl rfl (D_tx_fail w m c N D hm 6 (m.1 207) (l32 6 rfl) (KCn_i hm 207 rfl)) (fun y x hm e => ⟨_, rfl, hm, Or.inr ⟨x, e, rfl⟩⟩) (fun y8 n10 => ?_)
    refine P_lv (b := [(0, .ref 6), (1, .int (i32 v1)), (2, .int (i32 y4))]) rfl rfl ⟨rfl, rfl, rfl, trivial⟩ ?_
    exact dg_tx_known_35 w c N D bb y4 h5 y8.2.2 n10 (jk [(1, v1)])
  · skip
    refine P_lv (b := [(0, .ref 6), (1, .int (i32 v1)), (2, .int (i32 y4))]) rfl rfl ⟨rfl, rfl, rfl, trivial⟩ ?_
    exact dg_tx_known_35 w c N D bb y4 h5 m hm (jk [(1, v1)])
def kf_tx_known (v1 : Int) (m : mR) : Option (Int × Int × mR) :=
  if m.1 206 = 256 then
    kfl_tx_known_14 v1 m
  else
    bnd (kf_tx_refuse m) fun y12 =>
    if y12.1 = 0 then
      kfl_tx_known_14 v1 y12.2.2
    else
      some (y12.1, 0, y12.2.2)
theorem D_tx_known (w : wX) (m : mR) (c : Nat → Option am_C) (N D : Nat) (hm : KCn m) (v1 : Int) (q1 : R32 v1) : PC w D 83 [.ref 6, .int (i32 v1)] (khp m c, N) (QS (FX1 c N) (kf_tx_known v1 m)) := by
  refine Pc_of (fun D bb => ?_) D
  unfold kf_tx_known
  show PP bb w D pm_83 (0, [(0, .ref 6), (1, .int (i32 v1))], [], (khp (mO m [] []) c, N), 0, 0) _
  refine P_ld 1 (.ref 6) rfl (fun _ => rfl) ?_
  refine PK_gf 4 (.int (i32 (m.1 206))) rfl rfl kd_6 rfl rfl rfl ?_
  refine P_ld 7 (.int (i32 256)) rfl (fun _ => rfl) ?_
  refine P_icF 14 10 rfl rfl rfl (KCn_i hm 206 rfl) (l32 256 rfl) rfl (fun h11 => ?_) (fun h11 => ?_)
  · skip
    exact dg_tx_known_14 w c N D bb v1 q1 m hm (jk [])
  · skip
    refine P_ld 11 (.ref 6) rfl (fun _ => rfl) ?_
    refine P_cx0 14 76 [.ref 6] [] rfl (fun _ => rfl) rfl rfl (D_tx_refuse w m c N D hm) (fun y x hm e => ⟨_, rfl, hm, Or.inr ⟨x, e, rfl⟩⟩) (fun y12 n14 => ?_)
    exact dg_tx_known_14 w c N D bb v1 q1 y12.2.2 n14 (jk [])
def kf_rd_goesOnList (m : mR) : Option (Int × Int × mR) :=
  if m.1 206 = 44 then
    bnd (kf_tx_advance m) fun y2 =>
    if y2.1 = 0 then
      some (0, 1, y2.2.2)
    else
      some (y2.1, 0, y2.2.2)
  else
    some (0, 0, m)
theorem D_rd_goesOnList (w : wX) (m : mR) (c : Nat → Option am_C) (N D : Nat) (hm : KCn m) : PC w D 120 [.ref 178] (khp m c, N) (QS (FX1 c N) (kf_rd_goesOnList m)) := by
  refine Pc_of (fun D bb => ?_) D
  unfold kf_rd_goesOnList
  show PP bb w D pm_120 (0, [(0, .ref 178)], [], (khp (mO m [] []) c, N), 0, 0) _
  refine P_ld 1 (.ref 178) rfl (fun _ => rfl) ?_
  refine PK_gf 4 (.ref 6) rfl rfl kd_178 rfl rfl rfl ?_
  refine PK_gf 7 (.int (i32 (m.1 206))) rfl rfl kd_6 rfl rfl rfl ?_
  refine P_ld 9 (.int (i32 44)) rfl (fun _ => rfl) ?_
  refine P_icF 14 12 rfl rfl rfl (KCn_i hm 206 rfl) (l32 44 rfl) rfl (fun h1 => ?_) (fun h1 => ?_)
  · skip
    refine P_ld 15 (.ref 178) rfl (fun _ => rfl) ?_
    refine PK_gf 18 (.ref 6) rfl rfl kd_178 rfl rfl rfl ?_
    refine P_cx0 21 50 [.ref 6] [] rfl (fun _ => rfl) rfl rfl (D_tx_advance w m c N D hm) (fun y x hm e => ⟨_, rfl, hm, Or.inr ⟨x, e, rfl⟩⟩) (fun y2 n4 => ?_)
    refine P_ld 22 (.int (i32 1)) rfl (fun _ => rfl) ?_
    exact P_rx1 rfl (l32 1 rfl) n4
  · skip
    refine P_ld 13 (.int (i32 0)) rfl (fun _ => rfl) ?_
    exact P_rx1 rfl (l32 0 rfl) hm
def cs_rd_emit_14 (s : Int × Int × mR) : Prop := R32 s.1 ∧ R32 s.2.1 ∧ KCn s.2.2
def cx_rd_emit_14 : (Sum (mR) (Int × mR)) → Prop := (sel (fun (e : mR) => KCn e) (fun (e : Int × mR) => False))
def hd_rd_emit_14 (c : Nat → Option am_C) (N : Nat) (s : Int × Int × mR) (j : Nat → Int) : ag_St af_T := (14, [(0, .ref 178), (1, .int (i32 s.1)), (2, .int (i32 s.2.1)), (3, .int (i32 (j 3))), (4, .int (i32 (j 4))), (5, .int (i32 (j 5)))], [], (khp s.2.2 c, N), 0, 0)
def ex_rd_emit_14 (c : Nat → Option am_C) (N : Nat) : (Sum (mR) (Int × mR)) → (Nat → Int) → ag_St af_T := (sel (fun (e : mR) (j : Nat → Int) => ((131, [(0, .ref 178), (1, .int (i32 (j 1))), (2, .int (i32 (j 2))), (3, .int (i32 (j 3))), (4, .int (i32 (j 4))), (5, .int (i32 (j 5)))], [], (khp e c, N), 0, 0) : ag_St af_T)) (fun (e : Int × mR) (j : Nat → Int) => ((0, [], [], (khp e.2 c, N), 0, 0) : ag_St af_T)))
def tx_rd_emit_14 (c : Nat → Option am_C) (N : Nat) : (Sum (mR) (Int × mR)) → ag_Re af_T → Prop := (sel (fun (_ : mR) (_ : ag_Re af_T) => False) (fun (e : Int × mR) (r : ag_Re af_T) => ∃ x : Nat, e.1 = x + 1 ∧ KCn e.2 ∧ r = (.inr x, (khp e.2 c, N), 1, 6)))
def cs_rd_emit_47 (s : Int × mR) : Prop := R32 s.1 ∧ KCn s.2
def cx_rd_emit_47 : (Sum (mR) (Int × mR)) → Prop := (sel (fun (e : mR) => KCn e) (fun (e : Int × mR) => False))
def hd_rd_emit_47 (c : Nat → Option am_C) (N : Nat) (v2 : Int) (v3 : Int) (v4 : Int) (s : Int × mR) (j : Nat → Int) : ag_St af_T := (47, [(0, .ref 178), (1, .int (i32 (j 1))), (2, .int (i32 v2)), (3, .int (i32 v3)), (4, .int (i32 v4)), (5, .int (i32 s.1))], [], (khp s.2 c, N), 0, 0)
def ex_rd_emit_47 (c : Nat → Option am_C) (N : Nat) (v2 : Int) (v3 : Int) (v4 : Int) : (Sum (mR) (Int × mR)) → (Nat → Int) → ag_St af_T := (sel (fun (e : mR) (j : Nat → Int) => ((90, [(0, .ref 178), (1, .int (i32 (j 1))), (2, .int (i32 v2)), (3, .int (i32 (j 3))), (4, .int (i32 v4)), (5, .int (i32 (j 5)))], [], (khp e c, N), 0, 0) : ag_St af_T)) (fun (e : Int × mR) (j : Nat → Int) => ((0, [], [], (khp e.2 c, N), 0, 0) : ag_St af_T)))
def tx_rd_emit_47 (c : Nat → Option am_C) (N : Nat) : (Sum (mR) (Int × mR)) → ag_Re af_T → Prop := (sel (fun (_ : mR) (_ : ag_Re af_T) => False) (fun (e : Int × mR) (r : ag_Re af_T) => ∃ x : Nat, e.1 = x + 1 ∧ KCn e.2 ∧ r = (.inr x, (khp e.2 c, N), 1, 6)))
def kfl_rd_emit_131 (m : mR) : Option (Int × Int × mR) :=
  bnd (kf_tx_expect 59 m) fun y3 =>
  if y3.1 = 0 then
    some (0, 0, y3.2.2)
  else
    some (y3.1, 0, y3.2.2)
theorem dg_rd_emit_131 (w : wX) (c : Nat → Option am_C) (N D : Nat) (bb : Nat) (m : mR) (hm : KCn m) (j : Nat → Int) : PP bb w D pm_143 (131, [(0, .ref 178), (1, .int (i32 (j 1))), (2, .int (i32 (j 2))), (3, .int (i32 (j 3))), (4, .int (i32 (j 4))), (5, .int (i32 (j 5)))], [], (khp m c, N), 0, 0) (QS (FX0 c N) (kfl_rd_emit_131 m)) := by
  unfold kfl_rd_emit_131
  show PP bb w D pm_143 (131, [(0, .ref 178), (1, .int (i32 (j 1))), (2, .int (i32 (j 2))), (3, .int (i32 (j 3))), (4, .int (i32 (j 4))), (5, .int (i32 (j 5)))], [], (khp (mO m [] []) c, N), 0, 0) _
  refine P_ld 132 (.ref 178) rfl (fun _ => rfl) ?_
  refine PK_gf 135 (.ref 6) rfl rfl kd_178 rfl rfl rfl ?_
  refine P_ld 137 (.int (i32 59)) rfl (fun _ => rfl) ?_
  refine P_cx0 140 78 [.ref 6, .int (i32 59)] [] rfl (fun _ => rfl) rfl rfl (D_tx_expect w m c N D hm 59 (l32 59 rfl)) (fun y x hm e => ⟨_, rfl, hm, Or.inr ⟨x, e, rfl⟩⟩) (fun y3 n5 => ?_)
  exact P_rx0 rfl rfl n5
def kfl_rd_emit_90 (v2 : Int) (v4 : Int) (m : mR) : Option (Sum (Int × Int × mR) (Sum (mR) (Int × mR))) :=
  bnd (kf_rd_goesOnList (mO m [(218, cut ((m.1 218) + 1))] [(17, upI (m.2 17) (m.1 218) v4)])) fun y6 =>
  if y6.1 = 0 then
    some (.inl (y6.2.1, cut (v2 + 1), y6.2.2))
  else
    some (.inr (.inr (y6.1, y6.2.2)))
theorem dg_rd_emit_90 (w : wX) (c : Nat → Option am_C) (N D : Nat) (bb : Nat) (v2 : Int) (v4 : Int) (q2 : R32 v2) (q4 : R32 v4) (m : mR) (hm : KCn m) (j : Nat → Int) (Q2 : Sum (Int × Int × mR) (Sum (mR) (Int × mR)) → ag_Re af_T → Prop) (H1 : ∀ s j, cs_rd_emit_14 s → PP bb w D pm_143 (hd_rd_emit_14 c N s j) (Q2 (.inl s))) (H2 : ∀ x j, cx_rd_emit_14 x → PP bb w D pm_143 (ex_rd_emit_14 c N x j) (Q2 (.inr x))) (H3 : ∀ x r, tx_rd_emit_14 c N x r → Q2 (.inr x) r) : PP bb w D pm_143 (90, [(0, .ref 178), (1, .int (i32 (j 1))), (2, .int (i32 v2)), (3, .int (i32 (j 3))), (4, .int (i32 v4)), (5, .int (i32 (j 5)))], [], (khp m c, N), 0, 0) (QS Q2 (kfl_rd_emit_90 v2 v4 m)) := by
  unfold kfl_rd_emit_90
  show PP bb w D pm_143 (90, [(0, .ref 178), (1, .int (i32 (j 1))), (2, .int (i32 v2)), (3, .int (i32 (j 3))), (4, .int (i32 v4)), (5, .int (i32 (j 5)))], [], (khp (mO m [] []) c, N), 0, 0) _
  refine P_ld 91 (.ref 178) rfl (fun _ => rfl) ?_
  refine PK_gf 94 (.ref 12) rfl rfl kd_178 rfl rfl rfl ?_
  refine PK_gf 97 (.ref 20) rfl rfl kd_12 rfl rfl rfl ?_
  refine P_ld 98 (.ref 178) rfl (fun _ => rfl) ?_
  refine PK_gf 101 (.ref 12) rfl rfl kd_178 rfl rfl rfl ?_
  refine PK_gf 104 (.int (i32 (m.1 218))) rfl rfl kd_12 rfl rfl rfl ?_
  refine P_ld 106 (.int (i32 v4)) rfl (fun _ => rfl) ?_
  refine PK_iast2 (a' := [(17, upI (m.2 17) (m.1 218) v4)]) 107 17 (m.2 17) rfl rfl rfl (KCn_i hm 218 rfl) rfl rfl ?_
  refine P_ld 108 (.ref 178) rfl (fun _ => rfl) ?_
  refine PK_gf 111 (.ref 12) rfl rfl kd_178 rfl rfl rfl ?_
  refine P_ld 112 (.ref 12) rfl (fun _ => rfl) ?_
  refine PK_gf 115 (.int (i32 (m.1 218))) rfl rfl kd_12 rfl rfl rfl ?_
  refine P_ld 116 (.int (i32 1)) rfl (fun _ => rfl) ?_
  refine P_op 117 (cut ((m.1 218) + 1)) _ rfl (fun _ => rfl) o_add ?_
  refine PK_pf (l' := [(218, cut ((m.1 218) + 1))]) 120 (cut ((m.1 218) + 1)) rfl rfl kd_12 rfl rfl rfl rfl rfl rfl rfl ?_
  refine P_ld 121 (.ref 178) rfl (fun _ => rfl) ?_
  refine P_cx1 124 120 [.ref 178] [] rfl (fun _ => rfl) rfl rfl (D_rd_goesOnList w (mO m [(218, cut ((m.1 218) + 1))] [(17, upI (m.2 17) (m.1 218) v4)]) c N D (KCn_mO hm rfl rfl ⟨(kV_i rfl cut_r), trivial⟩ ⟨(kE_ui (KCn_a hm 17) rfl q4), trivial⟩)) (fun y x hm e => ⟨_, rfl, H3 _ _ ⟨x, e, hm, rfl⟩⟩) (fun y6 h7 n8 => ?_)
  refine P_sto 125 [(1, .int (i32 y6.2.1)), (0, .ref 178), (2, .int (i32 v2)), (3, .int (i32 (j 3))), (4, .int (i32 v4)), (5, .int (i32 (j 5)))] rfl (fun _ => rfl) ?_
  refine P_inc 128 [(2, .int (i32 (cut (v2 + 1)))), (1, .int (i32 y6.2.1)), (0, .ref 178), (3, .int (i32 (j 3))), (4, .int (i32 v4)), (5, .int (i32 (j 5)))] rfl rfl (by decide) rfl rfl ?_
  refine P_goto 14 rfl (fun _ => rfl) ?_
  refine P_some ?_
  refine P_lv (b := [(0, .ref 178), (1, .int (i32 y6.2.1)), (2, .int (i32 (cut (v2 + 1)))), (3, .int (i32 (j 3))), (4, .int (i32 v4)), (5, .int (i32 (j 5)))]) rfl rfl ⟨rfl, rfl, rfl, rfl, rfl, rfl, trivial⟩ ?_
  exact H1 (y6.2.1, cut (v2 + 1), y6.2.2) (jk [(3, j 3), (4, v4), (5, j 5)]) ⟨h7, cut_r, n8⟩
def kfl_rd_emit_84 (v2 : Int) (v3 : Int) (v4 : Int) (v5 : Int) (m : mR) : Option (Sum (Int × mR) (Sum (mR) (Int × mR))) :=
  some (.inl (cut (v5 + 1), m))
theorem dg_rd_emit_84 (w : wX) (c : Nat → Option am_C) (N D : Nat) (bb : Nat) (v2 : Int) (v3 : Int) (v4 : Int) (v5 : Int) (q2 : R32 v2) (q3 : R32 v3) (q4 : R32 v4) (q5 : R32 v5) (m : mR) (hm : KCn m) (j : Nat → Int) (Q2 : Sum (Int × mR) (Sum (mR) (Int × mR)) → ag_Re af_T → Prop) (H1 : ∀ s j, cs_rd_emit_47 s → PP bb w D pm_143 (hd_rd_emit_47 c N v2 v3 v4 s j) (Q2 (.inl s))) (H2 : ∀ x j, cx_rd_emit_47 x → PP bb w D pm_143 (ex_rd_emit_47 c N v2 v3 v4 x j) (Q2 (.inr x))) (H3 : ∀ x r, tx_rd_emit_47 c N x r → Q2 (.inr x) r) : PP bb w D pm_143 (84, [(0, .ref 178), (1, .int (i32 (j 1))), (2, .int (i32 v2)), (3, .int (i32 v3)), (4, .int (i32 v4)), (5, .int (i32 v5))], [], (khp m c, N), 0, 0) (QS Q2 (kfl_rd_emit_84 v2 v3 v4 v5 m)) := by
  unfold kfl_rd_emit_84
  show PP bb w D pm_143 (84, [(0, .ref 178), (1, .int (i32 (j 1))), (2, .int (i32 v2)), (3, .int (i32 v3)), (4, .int (i32 v4)), (5, .int (i32 v5))], [], (khp (mO m [] []) c, N), 0, 0) _
  refine P_inc 87 [(5, .int (i32 (cut (v5 + 1)))), (0, .ref 178), (1, .int (i32 (j 1))), (2, .int (i32 v2)), (3, .int (i32 v3)), (4, .int (i32 v4))] rfl rfl (by decide) rfl rfl ?_
  refine P_goto 47 rfl (fun _ => rfl) ?_
  refine P_some ?_
  refine P_lv (b := [(0, .ref 178), (1, .int (i32 (j 1))), (2, .int (i32 v2)), (3, .int (i32 v3)), (4, .int (i32 v4)), (5, .int (i32 (cut (v5 + 1))))]) rfl rfl ⟨rfl, rfl, rfl, rfl, rfl, rfl, trivial⟩ ?_
  exact H1 (cut (v5 + 1), m) (jk [(1, j 1)]) ⟨cut_r, hm⟩
def kfb_rd_emit_47 (v2 : Int) (v3 : Int) (v4 : Int) (s : Int × mR) : Option (Sum (Int × mR) (Sum (mR) (Int × mR))) :=
  if s.2.1 218 ≤ s.1 then
    some (.inr (.inl s.2))
  else
    if (s.2.2 17) s.1 = v4 then
      bnd (kf_tx_fail 8 v3 s.2) fun y12 =>
      if y12.1 = 0 then
        kfl_rd_emit_84 v2 v3 v4 s.1 y12.2.2
      else
        some (.inr (.inr (y12.1, y12.2.2)))
    else
      kfl_rd_emit_84 v2 v3 v4 s.1 s.2
theorem dh_rd_emit_47 (w : wX) (c : Nat → Option am_C) (N D : Nat) (v2 : Int) (v3 : Int) (v4 : Int) (q2 : R32 v2) (q3 : R32 v3) (q4 : R32 v4) (bb : Nat) (Q2 : Sum (Int × mR) (Sum (mR) (Int × mR)) → ag_Re af_T → Prop) (H1 : ∀ s j, cs_rd_emit_47 s → PP bb w D pm_143 (hd_rd_emit_47 c N v2 v3 v4 s j) (Q2 (.inl s))) (H2 : ∀ x j, cx_rd_emit_47 x → PP bb w D pm_143 (ex_rd_emit_47 c N v2 v3 v4 x j) (Q2 (.inr x))) (H3 : ∀ x r, tx_rd_emit_47 c N x r → Q2 (.inr x) r) (s : Int × mR) (j : Nat → Int) (hs : cs_rd_emit_47 s) : PP (bb + 1) w D pm_143 (hd_rd_emit_47 c N v2 v3 v4 s j) (QS Q2 (kfb_rd_emit_47 v2 v3 v4 s)) := by
  obtain ⟨g5, gm⟩ := hs
  unfold kfb_rd_emit_47
  show PP (bb + 1) w D pm_143 (47, [(0, .ref 178), (1, .int (i32 (j 1))), (2, .int (i32 v2)), (3, .int (i32 v3)), (4, .int (i32 v4)), (5, .int (i32 s.1))], [], (khp (mO s.2 [] []) c, N), 0, 0) _
  refine P1_ld 49 (.int (i32 s.1)) rfl (fun _ => rfl) ?_
  refine P_ld 50 (.ref 178) rfl (fun _ => rfl) ?_
  refine PK_gf 53 (.ref 12) rfl rfl kd_178 rfl rfl rfl ?_
  refine PK_gf 56 (.int (i32 (s.2.1 218))) rfl rfl kd_12 rfl rfl rfl ?_
  refine P_icF 90 59 rfl rfl rfl g5 (KCn_i gm 218 rfl) rfl (fun h10 => ?_) (fun h10 => ?_)
  · skip
    refine P_some ?_
    exact H2 (.inl s.2) (jk [(1, j 1), (3, v3), (5, s.1)]) gm
  · skip
    refine P_ld 60 (.ref 178) rfl (fun _ => rfl) ?_
    refine PK_gf 63 (.ref 12) rfl rfl kd_178 rfl rfl rfl ?_
    refine PK_gf 66 (.ref 20) rfl rfl kd_12 rfl rfl rfl ?_
    refine P_ld 68 (.int (i32 s.1)) rfl (fun _ => rfl) ?_
    refine PK_iald2 69 17 (s.2.2 17) rfl rfl rfl g5 rfl ?_
    refine P_ld 71 (.int (i32 v4)) rfl (fun _ => rfl) ?_
    refine P_icE 84 74 rfl rfl rfl (kE_i (KCn_a gm 17) rfl _) q4 rfl (fun h11 => ?_) (fun h11 => ?_)
    · skip
      refine P_ld 75 (.ref 178) rfl (fun _ => rfl) ?_
      refine PK_gf 78 (.ref 6) rfl rfl kd_178 rfl rfl rfl ?_
      refine P_ld 80 (.int (i32 8)) rfl (fun _ => rfl) ?_
      refine P_ld 81 (.int (i32 v3)) rfl (fun _ => rfl) ?_
      refine P_cx0 84 51 [.ref 6, .int (i32 8), .int (i32 v3)] [] rfl (fun _ => rfl) rfl rfl (D_tx_fail w s.2 c N D gm 8 v3 (l32 8 rfl) q3) (fun y x hm e => ⟨_, rfl, H3 _ _ ⟨x, e, hm, rfl⟩⟩) (fun y12 n14 => ?_)
      exact dg_rd_emit_84 w c N D bb v2 v3 v4 s.1 q2 q3 q4 g5 y12.2.2 n14 (jk [(1, j 1)]) Q2 H1 H2 H3
    · skip
      exact dg_rd_emit_84 w c N D bb v2 v3 v4 s.1 q2 q3 q4 g5 s.2 gm (jk [(1, j 1)]) Q2 H1 H2 H3
def kfb_rd_emit_14 (s : Int × Int × mR) : Option (Sum (Int × Int × mR) (Sum (mR) (Int × mR))) :=
  if (12 : Int) < s.2.1 then
    some (.inr (.inl s.2.2))
  else
    if s.1 = 0 then
      some (.inr (.inl s.2.2))
    else
      bnd (kf_tx_known 301 s.2.2) fun y18 =>
      if y18.1 = 0 then
        bnd (whl (kfb_rd_emit_47 s.2.1 (s.2.2.1 207) y18.2.1) (0, y18.2.2)) (sel
          (fun e21 : mR =>
            kfl_rd_emit_90 s.2.1 y18.2.1 e21)
          (fun e24 : Int × mR =>
            some (.inr (.inr (e24.1, e24.2)))))
      else
        some (.inr (.inr (y18.1, y18.2.2)))
theorem dh_rd_emit_14 (w : wX) (c : Nat → Option am_C) (N D : Nat) (bb : Nat) (Q2 : Sum (Int × Int × mR) (Sum (mR) (Int × mR)) → ag_Re af_T → Prop) (H1 : ∀ s j, cs_rd_emit_14 s → PP bb w D pm_143 (hd_rd_emit_14 c N s j) (Q2 (.inl s))) (H2 : ∀ x j, cx_rd_emit_14 x → PP bb w D pm_143 (ex_rd_emit_14 c N x j) (Q2 (.inr x))) (H3 : ∀ x r, tx_rd_emit_14 c N x r → Q2 (.inr x) r) (s : Int × Int × mR) (j : Nat → Int) (hs : cs_rd_emit_14 s) : PP (bb + 1) w D pm_143 (hd_rd_emit_14 c N s j) (QS Q2 (kfb_rd_emit_14 s)) := by
  obtain ⟨g1, g2, gm⟩ := hs
  unfold kfb_rd_emit_14
  show PP (bb + 1) w D pm_143 (14, [(0, .ref 178), (1, .int (i32 s.1)), (2, .int (i32 s.2.1)), (3, .int (i32 (j 3))), (4, .int (i32 (j 4))), (5, .int (i32 (j 5)))], [], (khp (mO s.2.2 [] []) c, N), 0, 0) _
  refine P1_ld 15 (.int (i32 s.2.1)) rfl (fun _ => rfl) ?_
  refine P_ld 17 (.int (i32 12)) rfl (fun _ => rfl) ?_
  refine P_icF 131 20 rfl rfl rfl g2 (l32 12 rfl) rfl (fun h16 => ?_) (fun h16 => ?_)
  · skip
    refine P_some ?_
    exact H2 (.inl s.2.2) (jk [(1, s.1), (2, s.2.1), (3, j 3), (4, j 4), (5, j 5)]) gm
  · skip
    refine P_ld 21 (.int (i32 s.1)) rfl (fun _ => rfl) ?_
    refine P_ifF 131 24 rfl rfl rfl g1 rfl (fun h17 => ?_) (fun h17 => ?_)
    · skip
      refine P_some ?_
      exact H2 (.inl s.2.2) (jk [(1, s.1), (2, s.2.1), (3, j 3), (4, j 4), (5, j 5)]) gm
    · skip
      refine P_ld 25 (.ref 178) rfl (fun _ => rfl) ?_
      refine PK_gf 28 (.ref 6) rfl rfl kd_178 rfl rfl rfl ?_
      refine PK_gf 31 (.int (i32 (s.2.2.1 207))) rfl rfl kd_6 rfl rfl rfl ?_
      refine P_sto 32 [(3, .int (i32 (s.2.2.1 207))), (0, .ref 178), (1, .int (i32 s.1)), (2, .int (i32 s.2.1)), (4, .int (i32 (j 4))), (5, .int (i32 (j 5)))] rfl (fun _ => rfl) ?_
      refine P_ld 33 (.ref 178) rfl (fun _ => rfl) ?_
      refine PK_gf 36 (.ref 6) rfl rfl kd_178 rfl rfl rfl ?_
      refine P_ld 39 (.int (i32 301)) rfl (fun _ => rfl) ?_
      refine P_cx1 42 83 [.ref 6, .int (i32 301)] [] rfl (fun _ => rfl) rfl rfl (D_tx_known w s.2.2 c N D gm 301 (l32 301 rfl)) (fun y x hm e => ⟨_, rfl, H3 _ _ ⟨x, e, hm, rfl⟩⟩) (fun y18 h19 n20 => ?_)
      refine P_sto 44 [(4, .int (i32 y18.2.1)), (3, .int (i32 (s.2.2.1 207))), (0, .ref 178), (1, .int (i32 s.1)), (2, .int (i32 s.2.1)), (5, .int (i32 (j 5)))] rfl (fun _ => rfl) ?_
      refine P_ld 45 (.int (i32 0)) rfl (fun _ => rfl) ?_
      refine P_sto 47 [(5, .int (i32 0)), (4, .int (i32 y18.2.1)), (3, .int (i32 (s.2.2.1 207))), (0, .ref 178), (1, .int (i32 s.1)), (2, .int (i32 s.2.1))] rfl (fun _ => rfl) ?_
      refine P_lv (b := [(0, .ref 178), (1, .int (i32 s.1)), (2, .int (i32 s.2.1)), (3, .int (i32 (s.2.2.1 207))), (4, .int (i32 y18.2.1)), (5, .int (i32 0))]) rfl rfl ⟨rfl, rfl, rfl, rfl, rfl, rfl, trivial⟩ ?_
      refine P_bnd ?_
      refine P_whlx (TX := tx_rd_emit_47 c N) (fun bb Q2 H1 H2 H3 s9 j9 hs9 => dh_rd_emit_47 w c N D s.2.1 (s.2.2.1 207) y18.2.1 g2 (KCn_i gm 207 rfl) h19 bb Q2 H1 H2 H3 s9 j9 hs9) bb (fun x r hr => ?_) (fun x0 j hx0 => ?_) (0, y18.2.2) (jk [(1, s.1)]) ⟨(l32 0 rfl), n20⟩
      · skip
        cases x with
        | inl e => exact False.elim hr
        | inr x =>
          obtain ⟨x9, e9, k9, rfl⟩ := hr
          exact ⟨_, rfl, H3 _ _ ⟨x9, e9, k9, rfl⟩⟩
      cases x0 with
      | inl e21 =>
        have q22 := hx0
        have q23 := q22
        show PP bb w D pm_143 (90, [(0, .ref 178), (1, .int (i32 (j 1))), (2, .int (i32 s.2.1)), (3, .int (i32 (j 3))), (4, .int (i32 y18.2.1)), (5, .int (i32 (j 5)))], [], (khp (mO e21 [] []) c, N), 0, 0) (QS _ (kfl_rd_emit_90 s.2.1 y18.2.1 e21))
        exact dg_rd_emit_90 w c N D bb s.2.1 y18.2.1 g2 h19 e21 q23 (jk [(1, j 1), (3, j 3), (5, j 5)]) Q2 H1 H2 H3
      | inr e24 =>
        have q25 := hx0
        have q25 := q25
        exact False.elim q25
def kf_rd_emit (m : mR) : Option (Int × Int × mR) :=
  bnd (kf_tx_expect 323 m) fun y26 =>
  if y26.1 = 0 then
    bnd (whl kfb_rd_emit_14 (1, 0, y26.2.2)) (sel
      (fun e29 : mR =>
        kfl_rd_emit_131 e29)
      (fun e32 : Int × mR =>
        some (e32.1, 0, e32.2)))
  else
    some (y26.1, 0, y26.2.2)
theorem D_rd_emit (w : wX) (m : mR) (c : Nat → Option am_C) (N D : Nat) (hm : KCn m) : PC w D 143 [.ref 178] (khp m c, N) (QS (FX0 c N) (kf_rd_emit m)) := by
  refine Pc_of (fun D bb => ?_) D
  unfold kf_rd_emit
  show PP bb w D pm_143 (0, [(0, .ref 178)], [], (khp (mO m [] []) c, N), 0, 0) _
  refine P_ld 1 (.ref 178) rfl (fun _ => rfl) ?_
  refine PK_gf 4 (.ref 6) rfl rfl kd_178 rfl rfl rfl ?_
  refine P_ld 7 (.int (i32 323)) rfl (fun _ => rfl) ?_
  refine P_cx0 10 78 [.ref 6, .int (i32 323)] [] rfl (fun _ => rfl) rfl rfl (D_tx_expect w m c N D hm 323 (l32 323 rfl)) (fun y x hm e => ⟨_, rfl, hm, Or.inr ⟨x, e, rfl⟩⟩) (fun y26 n28 => ?_)
  refine P_ld 11 (.int (i32 1)) rfl (fun _ => rfl) ?_
  refine P_sto 12 [(1, .int (i32 1)), (0, .ref 178)] rfl (fun _ => rfl) ?_
  refine P_ld 13 (.int (i32 0)) rfl (fun _ => rfl) ?_
  refine P_sto 14 [(2, .int (i32 0)), (1, .int (i32 1)), (0, .ref 178)] rfl (fun _ => rfl) ?_
  refine P_lv (b := [(0, .ref 178), (1, .int (i32 1)), (2, .int (i32 0)), (3, .int (i32 0)), (4, .int (i32 0)), (5, .int (i32 0))]) rfl rfl ⟨rfl, rfl, rfl, trivial⟩ ?_
  refine P_bnd ?_
  refine P_whlx (TX := tx_rd_emit_14 c N) (fun bb Q2 H1 H2 H3 s9 j9 hs9 => dh_rd_emit_14 w c N D bb Q2 H1 H2 H3 s9 j9 hs9) bb (fun x r hr => ?_) (fun x0 j hx0 => ?_) (1, 0, y26.2.2) (jk []) ⟨(l32 1 rfl), (l32 0 rfl), n28⟩
  · skip
    cases x with
    | inl e => exact False.elim hr
    | inr x =>
      obtain ⟨x9, e9, k9, rfl⟩ := hr
      exact ⟨_, rfl, k9, Or.inr ⟨x9, e9, rfl⟩⟩
  cases x0 with
  | inl e29 =>
    have q30 := hx0
    have q31 := q30
    show PP bb w D pm_143 (131, [(0, .ref 178), (1, .int (i32 (j 1))), (2, .int (i32 (j 2))), (3, .int (i32 (j 3))), (4, .int (i32 (j 4))), (5, .int (i32 (j 5)))], [], (khp (mO e29 [] []) c, N), 0, 0) (QS _ (kfl_rd_emit_131 e29))
    exact dg_rd_emit_131 w c N D bb e29 q31 (jk [(1, j 1), (2, j 2), (3, j 3), (4, j 4), (5, j 5)])
  | inr e32 =>
    have q33 := hx0
    have q33 := q33
    exact False.elim q33
def cs_ss_missing_2 (s : Int) : Prop := R32 s
def cx_ss_missing_2 : (Sum (Int) (Unit)) → Prop := (sel (fun (e : Int) => R32 e) (fun (e : Unit) => True))
def hd_ss_missing_2 (c : Nat → Option am_C) (N : Nat) (m : mR) (s : Int) (j : Nat → Int) : ag_St af_T := (2, [(0, .ref 31), (1, .int (i32 s))], [], (khp m c, N), 0, 0)
def ex_ss_missing_2 (c : Nat → Option am_C) (N : Nat) (m : mR) : (Sum (Int) (Unit)) → (Nat → Int) → ag_St af_T := (sel (fun (e : Int) (j : Nat → Int) => ((20, [(0, .ref 31), (1, .int (i32 e))], [], (khp m c, N), 0, 0) : ag_St af_T)) (fun (e : Unit) (j : Nat → Int) => ((33, [(0, .ref 31), (1, .int (i32 (j 1)))], [], (khp m c, N), 0, 0) : ag_St af_T)))
def kfl_ss_missing_20 (v1 : Int) (m : mR) : Option Int :=
  some ((m.2 35) v1)
theorem dg_ss_missing_20 (w : wX) (c : Nat → Option am_C) (N D : Nat) (bb : Nat) (v1 : Int) (q1 : R32 v1) (m : mR) (hm : KCn m) (j : Nat → Int) : PP bb w D pm_145 (20, [(0, .ref 31), (1, .int (i32 v1))], [], (khp m c, N), 0, 0) (QS (FP1 (khp m c, N)) (kfl_ss_missing_20 v1 m)) := by
  unfold kfl_ss_missing_20
  show PP bb w D pm_145 (20, [(0, .ref 31), (1, .int (i32 v1))], [], (khp (mO m [] []) c, N), 0, 0) _
  refine P_ld 21 (.ref 31) rfl (fun _ => rfl) ?_
  refine PK_gf 24 (.ref 41) rfl rfl kd_31 rfl rfl rfl ?_
  refine P_ld 25 (.int (i32 v1)) rfl (fun _ => rfl) ?_
  refine PK_iald2 26 35 (m.2 35) rfl rfl rfl q1 rfl ?_
  exact P_rp1 rfl (kE_i (KCn_a hm 35) rfl _)
def kfb_ss_missing_2 (m : mR) (s : Int) : Option (Sum (Int) (Sum (Int) (Unit))) :=
  if m.1 221 ≤ s then
    some (.inr (.inr ()))
  else
    if (m.2 36) s = (-1) then
      some (.inr (.inl s))
    else
      some (.inl (cut (s + 1)))
theorem dh_ss_missing_2 (w : wX) (c : Nat → Option am_C) (N D : Nat) (m : mR) (hm : KCn m) (bb : Nat) (Q2 : Sum (Int) (Sum (Int) (Unit)) → ag_Re af_T → Prop) (H1 : ∀ s j, cs_ss_missing_2 s → PP bb w D pm_145 (hd_ss_missing_2 c N m s j) (Q2 (.inl s))) (H2 : ∀ x j, cx_ss_missing_2 x → PP bb w D pm_145 (ex_ss_missing_2 c N m x j) (Q2 (.inr x))) (s : Int) (j : Nat → Int) (hs : cs_ss_missing_2 s) : PP (bb + 1) w D pm_145 (hd_ss_missing_2 c N m s j) (QS Q2 (kfb_ss_missing_2 m s)) := by
  have g1 := hs
  unfold kfb_ss_missing_2
  show PP (bb + 1) w D pm_145 (2, [(0, .ref 31), (1, .int (i32 s))], [], (khp (mO m [] []) c, N), 0, 0) _
  refine P1_ld 3 (.int (i32 s)) rfl (fun _ => rfl) ?_
  refine P_ld 4 (.ref 31) rfl (fun _ => rfl) ?_
  refine PK_gf 7 (.int (i32 (m.1 221))) rfl rfl kd_31 rfl rfl rfl ?_
  refine P_icF 33 10 rfl rfl rfl g1 (KCn_i hm 221 rfl) rfl (fun h3 => ?_) (fun h3 => ?_)
  · skip
    refine P_some ?_
    exact H2 (.inr ()) (jk [(1, s)]) trivial
  · skip
    refine P_ld 11 (.ref 31) rfl (fun _ => rfl) ?_
    refine PK_gf 14 (.ref 42) rfl rfl kd_31 rfl rfl rfl ?_
    refine P_ld 15 (.int (i32 s)) rfl (fun _ => rfl) ?_
    refine PK_iald2 16 36 (m.2 36) rfl rfl rfl g1 rfl ?_
    refine P_ld 17 (.int (i32 (-1))) rfl (fun _ => rfl) ?_
    refine P_icE 27 20 rfl rfl rfl (kE_i (KCn_a hm 36) rfl _) (l32 (-1) rfl) rfl (fun h4 => ?_) (fun h4 => ?_)
    · skip
      refine P_some ?_
      exact H2 (.inl s) (jk []) g1
    · skip
      refine P_inc 30 [(1, .int (i32 (cut (s + 1)))), (0, .ref 31)] rfl rfl (by decide) rfl rfl ?_
      refine P_goto 2 rfl (fun _ => rfl) ?_
      refine P_some ?_
      refine P_lv (b := [(0, .ref 31), (1, .int (i32 (cut (s + 1))))]) rfl rfl ⟨rfl, rfl, trivial⟩ ?_
      exact H1 (cut (s + 1)) (jk []) cut_r
def kf_ss_missing (m : mR) : Option Int :=
  bnd (whl (kfb_ss_missing_2 m) 0) (sel
    (fun e5 : Int =>
      kfl_ss_missing_20 e5 m)
    (fun e8 : Unit =>
      some (-1)))
theorem D_ss_missing (w : wX) (m : mR) (c : Nat → Option am_C) (N D : Nat) (hm : KCn m) : PC w D 145 [.ref 31] (khp m c, N) (QS (FP1 (khp m c, N)) (kf_ss_missing m)) := by
  refine Pc_of (fun D bb => ?_) D
  unfold kf_ss_missing
  show PP bb w D pm_145 (0, [(0, .ref 31)], [], (khp (mO m [] []) c, N), 0, 0) _
  refine P_ld 1 (.int (i32 0)) rfl (fun _ => rfl) ?_
  refine P_sto 2 [(1, .int (i32 0)), (0, .ref 31)] rfl (fun _ => rfl) ?_
  refine P_lv (b := [(0, .ref 31), (1, .int (i32 0))]) rfl rfl ⟨rfl, rfl, trivial⟩ ?_
  refine P_bnd ?_
  refine P_whl (fun bb Q2 H1 H2 s9 j9 hs9 => dh_ss_missing_2 w c N D m hm bb Q2 H1 H2 s9 j9 hs9) bb (fun x0 j hx0 => ?_) 0 (jk []) (l32 0 rfl)
  cases x0 with
  | inl e5 =>
    have q6 := hx0
    have q7 := q6
    show PP bb w D pm_145 (20, [(0, .ref 31), (1, .int (i32 e5))], [], (khp (mO m [] []) c, N), 0, 0) (QS _ (kfl_ss_missing_20 e5 m))
    exact dg_ss_missing_20 w c N D bb e5 q7 m hm (jk [])
  | inr e8 =>
    have q9 := hx0
    show PP bb w D pm_145 (33, [(0, .ref 31), (1, .int (i32 (j 1)))], [], (khp (mO m [] []) c, N), 0, 0) (QS _ (some (-1)))
    refine P_ld 34 (.int (i32 (-1))) rfl (fun _ => rfl) ?_
    exact P_rp1 rfl (l32 (-1) rfl)
def cs_ss_goalsOf_11 (s : Int × Int) : Prop := R32 s.1 ∧ R32 s.2
def cx_ss_goalsOf_11 : (Int) → Prop := (fun (e : Int) => R32 e)
def hd_ss_goalsOf_11 (c : Nat → Option am_C) (N : Nat) (v1 : Int) (m : mR) (s : Int × Int) (j : Nat → Int) : ag_St af_T := (11, [(0, .ref 31), (1, .int (i32 v1)), (2, .int (i32 s.1)), (3, .int (i32 s.2))], [], (khp m c, N), 0, 0)
def ex_ss_goalsOf_11 (c : Nat → Option am_C) (N : Nat) (v1 : Int) (m : mR) : (Int) → (Nat → Int) → ag_St af_T := (fun (e : Int) (j : Nat → Int) => ((43, [(0, .ref 31), (1, .int (i32 (j 1))), (2, .int (i32 e)), (3, .int (i32 (j 3)))], [], (khp m c, N), 0, 0) : ag_St af_T))
def kfb_ss_goalsOf_11 (v1 : Int) (m : mR) (s : Int × Int) : Option (Sum (Int × Int) (Int)) :=
  if (m.2 30) v1 ≤ s.2 then
    some (.inr s.1)
  else
    some (.inl (or32 s.1 (shl32 1 ((m.2 33) (cut ((cut (v1 * 8)) + s.2)))), cut (s.2 + 1)))
theorem dh_ss_goalsOf_11 (w : wX) (c : Nat → Option am_C) (N D : Nat) (v1 : Int) (q1 : R32 v1) (m : mR) (hm : KCn m) (bb : Nat) (Q2 : Sum (Int × Int) (Int) → ag_Re af_T → Prop) (H1 : ∀ s j, cs_ss_goalsOf_11 s → PP bb w D pm_147 (hd_ss_goalsOf_11 c N v1 m s j) (Q2 (.inl s))) (H2 : ∀ x j, cx_ss_goalsOf_11 x → PP bb w D pm_147 (ex_ss_goalsOf_11 c N v1 m x j) (Q2 (.inr x))) (s : Int × Int) (j : Nat → Int) (hs : cs_ss_goalsOf_11 s) : PP (bb + 1) w D pm_147 (hd_ss_goalsOf_11 c N v1 m s j) (QS Q2 (kfb_ss_goalsOf_11 v1 m s)) := by
  obtain ⟨g2, g3⟩ := hs
  unfold kfb_ss_goalsOf_11
  show PP (bb + 1) w D pm_147 (11, [(0, .ref 31), (1, .int (i32 v1)), (2, .int (i32 s.1)), (3, .int (i32 s.2))], [], (khp (mO m [] []) c, N), 0, 0) _
  refine P1_ld 12 (.int (i32 s.2)) rfl (fun _ => rfl) ?_
  refine P_ld 13 (.ref 31) rfl (fun _ => rfl) ?_
  refine PK_gf 16 (.ref 36) rfl rfl kd_31 rfl rfl rfl ?_
  refine P_ld 17 (.int (i32 v1)) rfl (fun _ => rfl) ?_
  refine PK_iald2 18 30 (m.2 30) rfl rfl rfl q1 rfl ?_
  refine P_icF 43 21 rfl rfl rfl g3 (kE_i (KCn_a hm 30) rfl _) rfl (fun h3 => ?_) (fun h3 => ?_)
  · skip
    refine P_some ?_
    exact H2 s.1 (jk [(1, v1), (3, s.2)]) g2
  · skip
    refine P_ld 22 (.int (i32 s.1)) rfl (fun _ => rfl) ?_
    refine P_ld 23 (.int (i32 1)) rfl (fun _ => rfl) ?_
    refine P_ld 24 (.ref 31) rfl (fun _ => rfl) ?_
    refine PK_gf 27 (.ref 39) rfl rfl kd_31 rfl rfl rfl ?_
    refine P_ld 28 (.int (i32 v1)) rfl (fun _ => rfl) ?_
    refine P_ld 30 (.int (i32 8)) rfl (fun _ => rfl) ?_
    refine P_op 31 (cut (v1 * 8)) _ rfl (fun _ => rfl) o_mul ?_
    refine P_ld 32 (.int (i32 s.2)) rfl (fun _ => rfl) ?_
    refine P_op 33 (cut ((cut (v1 * 8)) + s.2)) _ rfl (fun _ => rfl) o_add ?_
    refine PK_iald2 34 33 (m.2 33) rfl rfl rfl cut_r rfl ?_
    refine P_op 35 (shl32 1 ((m.2 33) (cut ((cut (v1 * 8)) + s.2)))) _ rfl (fun _ => rfl) (i32_of _).symm ?_
    refine P_op 36 (or32 s.1 (shl32 1 ((m.2 33) (cut ((cut (v1 * 8)) + s.2))))) _ rfl (fun _ => rfl) (i32_of _).symm ?_
    refine P_sto 37 [(2, .int (i32 (or32 s.1 (shl32 1 ((m.2 33) (cut ((cut (v1 * 8)) + s.2))))))), (0, .ref 31), (1, .int (i32 v1)), (3, .int (i32 s.2))] rfl (fun _ => rfl) ?_
    refine P_inc 40 [(3, .int (i32 (cut (s.2 + 1)))), (2, .int (i32 (or32 s.1 (shl32 1 ((m.2 33) (cut ((cut (v1 * 8)) + s.2))))))), (0, .ref 31), (1, .int (i32 v1))] rfl rfl (by decide) rfl rfl ?_
    refine P_goto 11 rfl (fun _ => rfl) ?_
    refine P_some ?_
    refine P_lv (b := [(0, .ref 31), (1, .int (i32 v1)), (2, .int (i32 (or32 s.1 (shl32 1 ((m.2 33) (cut ((cut (v1 * 8)) + s.2))))))), (3, .int (i32 (cut (s.2 + 1))))]) rfl rfl ⟨rfl, rfl, rfl, rfl, trivial⟩ ?_
    exact H1 (or32 s.1 (shl32 1 ((m.2 33) (cut ((cut (v1 * 8)) + s.2)))), cut (s.2 + 1)) (jk []) ⟨t32_r, cut_r⟩
def kf_ss_goalsOf (v1 : Int) (m : mR) : Option Int :=
  bnd (whl (kfb_ss_goalsOf_11 v1 m) (shl32 1 ((m.2 34) v1), 0)) (fun e4 : Int =>
    some e4)
theorem D_ss_goalsOf (w : wX) (m : mR) (c : Nat → Option am_C) (N D : Nat) (hm : KCn m) (v1 : Int) (q1 : R32 v1) : PC w D 147 [.ref 31, .int (i32 v1)] (khp m c, N) (QS (FP1 (khp m c, N)) (kf_ss_goalsOf v1 m)) := by
  refine Pc_of (fun D bb => ?_) D
  unfold kf_ss_goalsOf
  show PP bb w D pm_147 (0, [(0, .ref 31), (1, .int (i32 v1))], [], (khp (mO m [] []) c, N), 0, 0) _
  refine P_ld 1 (.int (i32 1)) rfl (fun _ => rfl) ?_
  refine P_ld 2 (.ref 31) rfl (fun _ => rfl) ?_
  refine PK_gf 5 (.ref 40) rfl rfl kd_31 rfl rfl rfl ?_
  refine P_ld 6 (.int (i32 v1)) rfl (fun _ => rfl) ?_
  refine PK_iald2 7 34 (m.2 34) rfl rfl rfl q1 rfl ?_
  refine P_op 8 (shl32 1 ((m.2 34) v1)) _ rfl (fun _ => rfl) (i32_of _).symm ?_
  refine P_sto 9 [(2, .int (i32 (shl32 1 ((m.2 34) v1)))), (0, .ref 31), (1, .int (i32 v1))] rfl (fun _ => rfl) ?_
  refine P_ld 10 (.int (i32 0)) rfl (fun _ => rfl) ?_
  refine P_sto 11 [(3, .int (i32 0)), (2, .int (i32 (shl32 1 ((m.2 34) v1)))), (0, .ref 31), (1, .int (i32 v1))] rfl (fun _ => rfl) ?_
  refine P_lv (b := [(0, .ref 31), (1, .int (i32 v1)), (2, .int (i32 (shl32 1 ((m.2 34) v1)))), (3, .int (i32 0))]) rfl rfl ⟨rfl, rfl, rfl, rfl, trivial⟩ ?_
  refine P_bnd ?_
  refine P_whl (fun bb Q2 H1 H2 s9 j9 hs9 => dh_ss_goalsOf_11 w c N D v1 q1 m hm bb Q2 H1 H2 s9 j9 hs9) bb (fun e4 j q5 => ?_) (shl32 1 ((m.2 34) v1), 0) (jk []) ⟨t32_r, (l32 0 rfl)⟩
  have q6 := q5
  show PP bb w D pm_147 (43, [(0, .ref 31), (1, .int (i32 (j 1))), (2, .int (i32 e4)), (3, .int (i32 (j 3)))], [], (khp (mO m [] []) c, N), 0, 0) (QS _ (some e4))
  refine P_ld 44 (.int (i32 e4)) rfl (fun _ => rfl) ?_
  exact P_rp1 rfl q6
def cs_ss_circling_2 (s : Int × mR) : Prop := R32 s.1 ∧ KCn s.2
def cx_ss_circling_2 : (mR) → Prop := (fun (e : mR) => KCn e)
def hd_ss_circling_2 (c : Nat → Option am_C) (N : Nat) (s : Int × mR) (j : Nat → Int) : ag_St af_T := (2, [(0, .ref 31), (1, .int (i32 s.1))], [], (khp s.2 c, N), 0, 0)
def ex_ss_circling_2 (c : Nat → Option am_C) (N : Nat) : (mR) → (Nat → Int) → ag_St af_T := (fun (e : mR) (j : Nat → Int) => ((40, [(0, .ref 31), (1, .int (i32 (j 1)))], [], (khp e c, N), 0, 0) : ag_St af_T))
def cs_ss_circling_42 (s : Int × mR) : Prop := R32 s.1 ∧ KCn s.2
def cx_ss_circling_42 : (mR) → Prop := (fun (e : mR) => KCn e)
def hd_ss_circling_42 (c : Nat → Option am_C) (N : Nat) (s : Int × mR) (j : Nat → Int) : ag_St af_T := (42, [(0, .ref 31), (1, .int (i32 s.1)), (2, .int (i32 (j 2)))], [], (khp s.2 c, N), 0, 0)
def ex_ss_circling_42 (c : Nat → Option am_C) (N : Nat) : (mR) → (Nat → Int) → ag_St af_T := (fun (e : mR) (j : Nat → Int) => ((104, [(0, .ref 31), (1, .int (i32 (j 1))), (2, .int (i32 (j 2)))], [], (khp e c, N), 0, 0) : ag_St af_T))
def cs_ss_circling_52 (s : Int × mR) : Prop := R32 s.1 ∧ KCn s.2
def cx_ss_circling_52 : (mR) → Prop := (fun (e : mR) => KCn e)
def hd_ss_circling_52 (c : Nat → Option am_C) (N : Nat) (v1 : Int) (s : Int × mR) (j : Nat → Int) : ag_St af_T := (52, [(0, .ref 31), (1, .int (i32 v1)), (2, .int (i32 s.1))], [], (khp s.2 c, N), 0, 0)
def ex_ss_circling_52 (c : Nat → Option am_C) (N : Nat) (v1 : Int) : (mR) → (Nat → Int) → ag_St af_T := (fun (e : mR) (j : Nat → Int) => ((98, [(0, .ref 31), (1, .int (i32 v1)), (2, .int (i32 (j 2)))], [], (khp e c, N), 0, 0) : ag_St af_T))
def cs_ss_circling_106 (s : Int) : Prop := R32 s
def cx_ss_circling_106 : (Sum (Int) (Unit)) → Prop := (sel (fun (e : Int) => R32 e) (fun (e : Unit) => True))
def hd_ss_circling_106 (c : Nat → Option am_C) (N : Nat) (m : mR) (s : Int) (j : Nat → Int) : ag_St af_T := (106, [(0, .ref 31), (1, .int (i32 s)), (2, .int (i32 (j 2)))], [], (khp m c, N), 0, 0)
def ex_ss_circling_106 (c : Nat → Option am_C) (N : Nat) (m : mR) : (Sum (Int) (Unit)) → (Nat → Int) → ag_St af_T := (sel (fun (e : Int) (j : Nat → Int) => ((137, [(0, .ref 31), (1, .int (i32 e)), (2, .int (i32 (j 2)))], [], (khp m c, N), 0, 0) : ag_St af_T)) (fun (e : Unit) (j : Nat → Int) => ((155, [(0, .ref 31), (1, .int (i32 (j 1))), (2, .int (i32 (j 2)))], [], (khp m c, N), 0, 0) : ag_St af_T)))
def kfl_ss_circling_137 (v1 : Int) (m : mR) : Option (Int × mR) :=
  some ((m.2 36) ((m.2 37) v1), m)
theorem dg_ss_circling_137 (w : wX) (c : Nat → Option am_C) (N D : Nat) (bb : Nat) (v1 : Int) (q1 : R32 v1) (m : mR) (hm : KCn m) (j : Nat → Int) : PP bb w D pm_146 (137, [(0, .ref 31), (1, .int (i32 v1)), (2, .int (i32 (j 2)))], [], (khp m c, N), 0, 0) (QS (FK1 c N) (kfl_ss_circling_137 v1 m)) := by
  unfold kfl_ss_circling_137
  show PP bb w D pm_146 (137, [(0, .ref 31), (1, .int (i32 v1)), (2, .int (i32 (j 2)))], [], (khp (mO m [] []) c, N), 0, 0) _
  refine P_ld 138 (.ref 31) rfl (fun _ => rfl) ?_
  refine PK_gf 141 (.ref 42) rfl rfl kd_31 rfl rfl rfl ?_
  refine P_ld 142 (.ref 31) rfl (fun _ => rfl) ?_
  refine PK_gf 145 (.ref 43) rfl rfl kd_31 rfl rfl rfl ?_
  refine P_ld 146 (.int (i32 v1)) rfl (fun _ => rfl) ?_
  refine PK_iald2 147 37 (m.2 37) rfl rfl rfl q1 rfl ?_
  refine PK_iald2 148 36 (m.2 36) rfl rfl rfl (kE_i (KCn_a hm 37) rfl _) rfl ?_
  exact P_rk1 rfl (kE_i (KCn_a hm 36) rfl _) hm
def kfb_ss_circling_106 (m : mR) (s : Int) : Option (Sum (Int) (Sum (Int) (Unit))) :=
  if m.1 222 ≤ s then
    some (.inr (.inr ()))
  else
    if and32 (ushr32 ((m.2 38) ((m.2 37) s)) ((m.2 37) s)) 1 = 0 then
      some (.inl (cut (s + 1)))
    else
      some (.inr (.inl s))
theorem dh_ss_circling_106 (w : wX) (c : Nat → Option am_C) (N D : Nat) (m : mR) (hm : KCn m) (bb : Nat) (Q2 : Sum (Int) (Sum (Int) (Unit)) → ag_Re af_T → Prop) (H1 : ∀ s j, cs_ss_circling_106 s → PP bb w D pm_146 (hd_ss_circling_106 c N m s j) (Q2 (.inl s))) (H2 : ∀ x j, cx_ss_circling_106 x → PP bb w D pm_146 (ex_ss_circling_106 c N m x j) (Q2 (.inr x))) (s : Int) (j : Nat → Int) (hs : cs_ss_circling_106 s) : PP (bb + 1) w D pm_146 (hd_ss_circling_106 c N m s j) (QS Q2 (kfb_ss_circling_106 m s)) := by
  have g1 := hs
  unfold kfb_ss_circling_106
  show PP (bb + 1) w D pm_146 (106, [(0, .ref 31), (1, .int (i32 s)), (2, .int (i32 (j 2)))], [], (khp (mO m [] []) c, N), 0, 0) _
  refine P1_ld 107 (.int (i32 s)) rfl (fun _ => rfl) ?_
  refine P_ld 108 (.ref 31) rfl (fun _ => rfl) ?_
  refine PK_gf 111 (.int (i32 (m.1 222))) rfl rfl kd_31 rfl rfl rfl ?_
  refine P_icF 155 114 rfl rfl rfl g1 (KCn_i hm 222 rfl) rfl (fun h6 => ?_) (fun h6 => ?_)
  · skip
    refine P_some ?_
    exact H2 (.inr ()) (jk [(1, s), (2, j 2)]) trivial
  · skip
    refine P_ld 115 (.ref 31) rfl (fun _ => rfl) ?_
    refine PK_gf 118 (.ref 44) rfl rfl kd_31 rfl rfl rfl ?_
    refine P_ld 119 (.ref 31) rfl (fun _ => rfl) ?_
    refine PK_gf 122 (.ref 43) rfl rfl kd_31 rfl rfl rfl ?_
    refine P_ld 123 (.int (i32 s)) rfl (fun _ => rfl) ?_
    refine PK_iald2 124 37 (m.2 37) rfl rfl rfl g1 rfl ?_
    refine PK_iald2 125 38 (m.2 38) rfl rfl rfl (kE_i (KCn_a hm 37) rfl _) rfl ?_
    refine P_ld 126 (.ref 31) rfl (fun _ => rfl) ?_
    refine PK_gf 129 (.ref 43) rfl rfl kd_31 rfl rfl rfl ?_
    refine P_ld 130 (.int (i32 s)) rfl (fun _ => rfl) ?_
    refine PK_iald2 131 37 (m.2 37) rfl rfl rfl g1 rfl ?_
    refine P_op 132 (ushr32 ((m.2 38) ((m.2 37) s)) ((m.2 37) s)) _ rfl (fun _ => rfl) (i32_of _).symm ?_
    refine P_ld 133 (.int (i32 1)) rfl (fun _ => rfl) ?_
    refine P_op 134 (and32 (ushr32 ((m.2 38) ((m.2 37) s)) ((m.2 37) s)) 1) _ rfl (fun _ => rfl) (i32_of _).symm ?_
    refine P_ifF 149 137 rfl rfl rfl t32_r rfl (fun h7 => ?_) (fun h7 => ?_)
    · skip
      refine P_inc 152 [(1, .int (i32 (cut (s + 1)))), (0, .ref 31), (2, .int (i32 (j 2)))] rfl rfl (by decide) rfl rfl ?_
      refine P_goto 106 rfl (fun _ => rfl) ?_
      refine P_some ?_
      refine P_lv (b := [(0, .ref 31), (1, .int (i32 (cut (s + 1)))), (2, .int (i32 (j 2)))]) rfl rfl ⟨rfl, rfl, rfl, trivial⟩ ?_
      exact H1 (cut (s + 1)) (jk [(2, j 2)]) cut_r
    · skip
      refine P_some ?_
      exact H2 (.inl s) (jk [(2, j 2)]) g1
def kfl_ss_circling_104 (m : mR) : Option (Int × mR) :=
  bnd (whl (kfb_ss_circling_106 m) 0) (sel
    (fun e8 : Int =>
      kfl_ss_circling_137 e8 m)
    (fun e11 : Unit =>
      some ((-1), m)))
theorem dg_ss_circling_104 (w : wX) (c : Nat → Option am_C) (N D : Nat) (bb : Nat) (m : mR) (hm : KCn m) (j : Nat → Int) : PP bb w D pm_146 (104, [(0, .ref 31), (1, .int (i32 (j 1))), (2, .int (i32 (j 2)))], [], (khp m c, N), 0, 0) (QS (FK1 c N) (kfl_ss_circling_104 m)) := by
  unfold kfl_ss_circling_104
  show PP bb w D pm_146 (104, [(0, .ref 31), (1, .int (i32 (j 1))), (2, .int (i32 (j 2)))], [], (khp (mO m [] []) c, N), 0, 0) _
  refine P_ld 105 (.int (i32 0)) rfl (fun _ => rfl) ?_
  refine P_sto 106 [(1, .int (i32 0)), (0, .ref 31), (2, .int (i32 (j 2)))] rfl (fun _ => rfl) ?_
  refine P_lv (b := [(0, .ref 31), (1, .int (i32 0)), (2, .int (i32 (j 2)))]) rfl rfl ⟨rfl, rfl, rfl, trivial⟩ ?_
  refine P_bnd ?_
  refine P_whl (fun bb Q2 H1 H2 s9 j9 hs9 => dh_ss_circling_106 w c N D m hm bb Q2 H1 H2 s9 j9 hs9) bb (fun x0 j hx0 => ?_) 0 (jk [(2, j 2)]) (l32 0 rfl)
  cases x0 with
  | inl e8 =>
    have q9 := hx0
    have q10 := q9
    show PP bb w D pm_146 (137, [(0, .ref 31), (1, .int (i32 e8)), (2, .int (i32 (j 2)))], [], (khp (mO m [] []) c, N), 0, 0) (QS _ (kfl_ss_circling_137 e8 m))
    exact dg_ss_circling_137 w c N D bb e8 q10 m hm (jk [(2, j 2)])
  | inr e11 =>
    have q12 := hx0
    show PP bb w D pm_146 (155, [(0, .ref 31), (1, .int (i32 (j 1))), (2, .int (i32 (j 2)))], [], (khp (mO m [] []) c, N), 0, 0) (QS _ (some ((-1), m)))
    refine P_ld 156 (.int (i32 (-1))) rfl (fun _ => rfl) ?_
    exact P_rk1 rfl (l32 (-1) rfl) hm
def kfl_ss_circling_98 (v1 : Int) (m : mR) : Option (Sum (Int × mR) (mR)) :=
  some (.inl (cut (v1 + 1), m))
theorem dg_ss_circling_98 (w : wX) (c : Nat → Option am_C) (N D : Nat) (bb : Nat) (v1 : Int) (q1 : R32 v1) (m : mR) (hm : KCn m) (j : Nat → Int) (Q2 : Sum (Int × mR) (mR) → ag_Re af_T → Prop) (H1 : ∀ s j, cs_ss_circling_42 s → PP bb w D pm_146 (hd_ss_circling_42 c N s j) (Q2 (.inl s))) (H2 : ∀ x j, cx_ss_circling_42 x → PP bb w D pm_146 (ex_ss_circling_42 c N x j) (Q2 (.inr x))) : PP bb w D pm_146 (98, [(0, .ref 31), (1, .int (i32 v1)), (2, .int (i32 (j 2)))], [], (khp m c, N), 0, 0) (QS Q2 (kfl_ss_circling_98 v1 m)) := by
  unfold kfl_ss_circling_98
  show PP bb w D pm_146 (98, [(0, .ref 31), (1, .int (i32 v1)), (2, .int (i32 (j 2)))], [], (khp (mO m [] []) c, N), 0, 0) _
  refine P_inc 101 [(1, .int (i32 (cut (v1 + 1)))), (0, .ref 31), (2, .int (i32 (j 2)))] rfl rfl (by decide) rfl rfl ?_
  refine P_goto 42 rfl (fun _ => rfl) ?_
  refine P_some ?_
  refine P_lv (b := [(0, .ref 31), (1, .int (i32 (cut (v1 + 1)))), (2, .int (i32 (j 2)))]) rfl rfl ⟨rfl, rfl, rfl, trivial⟩ ?_
  exact H1 (cut (v1 + 1), m) (jk [(2, j 2)]) ⟨cut_r, hm⟩
def kfl_ss_circling_90 (v1 : Int) (v2 : Int) (u1 : Int) (u2 : Int) (u3 : Int) (m : mR) : Option (Sum (Int × mR) (mR)) :=
  some (.inl (cut (v2 + 1), (mO m [] [(38, upI (m.2 38) u1 (or32 u2 u3))])))
theorem dg_ss_circling_90 (w : wX) (c : Nat → Option am_C) (N D : Nat) (bb : Nat) (v1 : Int) (v2 : Int) (u1 : Int) (u2 : Int) (u3 : Int) (q1 : R32 v1) (q2 : R32 v2) (r1 : R32 u1) (r2 : R32 u2) (r3 : R32 u3) (m : mR) (hm : KCn m) (j : Nat → Int) (Q2 : Sum (Int × mR) (mR) → ag_Re af_T → Prop) (H1 : ∀ s j, cs_ss_circling_52 s → PP bb w D pm_146 (hd_ss_circling_52 c N v1 s j) (Q2 (.inl s))) (H2 : ∀ x j, cx_ss_circling_52 x → PP bb w D pm_146 (ex_ss_circling_52 c N v1 x j) (Q2 (.inr x))) : PP bb w D pm_146 (90, [(0, .ref 31), (1, .int (i32 v1)), (2, .int (i32 v2))], [.int (i32 u3), .int (i32 u2), .int (i32 u1), .ref 44], (khp m c, N), 0, 0) (QS Q2 (kfl_ss_circling_90 v1 v2 u1 u2 u3 m)) := by
  unfold kfl_ss_circling_90
  show PP bb w D pm_146 (90, [(0, .ref 31), (1, .int (i32 v1)), (2, .int (i32 v2))], [.int (i32 u3), .int (i32 u2), .int (i32 u1), .ref 44], (khp (mO m [] []) c, N), 0, 0) _
  refine P_op 91 (or32 u2 u3) _ rfl (fun _ => rfl) (i32_of _).symm ?_
  refine PK_iast2 (a' := [(38, upI (m.2 38) u1 (or32 u2 u3))]) 92 38 (m.2 38) rfl rfl rfl r1 rfl rfl ?_
  refine P_inc 95 [(2, .int (i32 (cut (v2 + 1)))), (0, .ref 31), (1, .int (i32 v1))] rfl rfl (by decide) rfl rfl ?_
  refine P_goto 52 rfl (fun _ => rfl) ?_
  refine P_some ?_
  refine P_lv (b := [(0, .ref 31), (1, .int (i32 v1)), (2, .int (i32 (cut (v2 + 1))))]) rfl rfl ⟨rfl, rfl, rfl, trivial⟩ ?_
  exact H1 (cut (v2 + 1), (mO m [] [(38, upI (m.2 38) u1 (or32 u2 u3))])) (jk []) ⟨cut_r, (KCn_mO hm rfl rfl trivial ⟨(kE_ui (KCn_a hm 38) rfl t32_r), trivial⟩)⟩
def kfb_ss_circling_52 (v1 : Int) (s : Int × mR) : Option (Sum (Int × mR) (mR)) :=
  if s.2.1 221 ≤ s.1 then
    some (.inr s.2)
  else
    if and32 (ushr32 ((s.2.2 38) s.1) v1) 1 = 0 then
      kfl_ss_circling_90 v1 s.1 s.1 ((s.2.2 38) s.1) 0 s.2
    else
      kfl_ss_circling_90 v1 s.1 s.1 ((s.2.2 38) s.1) ((s.2.2 38) v1) s.2
theorem dh_ss_circling_52 (w : wX) (c : Nat → Option am_C) (N D : Nat) (v1 : Int) (q1 : R32 v1) (bb : Nat) (Q2 : Sum (Int × mR) (mR) → ag_Re af_T → Prop) (H1 : ∀ s j, cs_ss_circling_52 s → PP bb w D pm_146 (hd_ss_circling_52 c N v1 s j) (Q2 (.inl s))) (H2 : ∀ x j, cx_ss_circling_52 x → PP bb w D pm_146 (ex_ss_circling_52 c N v1 x j) (Q2 (.inr x))) (s : Int × mR) (j : Nat → Int) (hs : cs_ss_circling_52 s) : PP (bb + 1) w D pm_146 (hd_ss_circling_52 c N v1 s j) (QS Q2 (kfb_ss_circling_52 v1 s)) := by
  obtain ⟨g2, gm⟩ := hs
  unfold kfb_ss_circling_52
  show PP (bb + 1) w D pm_146 (52, [(0, .ref 31), (1, .int (i32 v1)), (2, .int (i32 s.1))], [], (khp (mO s.2 [] []) c, N), 0, 0) _
  refine P1_ld 53 (.int (i32 s.1)) rfl (fun _ => rfl) ?_
  refine P_ld 54 (.ref 31) rfl (fun _ => rfl) ?_
  refine PK_gf 57 (.int (i32 (s.2.1 221))) rfl rfl kd_31 rfl rfl rfl ?_
  refine P_icF 98 60 rfl rfl rfl g2 (KCn_i gm 221 rfl) rfl (fun h14 => ?_) (fun h14 => ?_)
  · skip
    refine P_some ?_
    exact H2 s.2 (jk [(2, s.1)]) gm
  · skip
    refine P_ld 61 (.ref 31) rfl (fun _ => rfl) ?_
    refine PK_gf 64 (.ref 44) rfl rfl kd_31 rfl rfl rfl ?_
    refine P_ld 65 (.int (i32 s.1)) rfl (fun _ => rfl) ?_
    refine P_dup2 66 rfl (fun _ => rfl) ?_
    refine PK_iald2 67 38 (s.2.2 38) rfl rfl rfl g2 rfl ?_
    refine P_ld 68 (.ref 31) rfl (fun _ => rfl) ?_
    refine PK_gf 71 (.ref 44) rfl rfl kd_31 rfl rfl rfl ?_
    refine P_ld 72 (.int (i32 s.1)) rfl (fun _ => rfl) ?_
    refine PK_iald2 73 38 (s.2.2 38) rfl rfl rfl g2 rfl ?_
    refine P_ld 74 (.int (i32 v1)) rfl (fun _ => rfl) ?_
    refine P_op 75 (ushr32 ((s.2.2 38) s.1) v1) _ rfl (fun _ => rfl) (i32_of _).symm ?_
    refine P_ld 76 (.int (i32 1)) rfl (fun _ => rfl) ?_
    refine P_op 77 (and32 (ushr32 ((s.2.2 38) s.1) v1) 1) _ rfl (fun _ => rfl) (i32_of _).symm ?_
    refine P_ifF 89 80 rfl rfl rfl t32_r rfl (fun h15 => ?_) (fun h15 => ?_)
    · skip
      refine P_ld 90 (.int (i32 0)) rfl (fun _ => rfl) ?_
      exact dg_ss_circling_90 w c N D bb v1 s.1 s.1 ((s.2.2 38) s.1) 0 q1 g2 g2 (kE_i (KCn_a gm 38) rfl _) (l32 0 rfl) s.2 gm (jk []) Q2 H1 H2
    · skip
      refine P_ld 81 (.ref 31) rfl (fun _ => rfl) ?_
      refine PK_gf 84 (.ref 44) rfl rfl kd_31 rfl rfl rfl ?_
      refine P_ld 85 (.int (i32 v1)) rfl (fun _ => rfl) ?_
      refine PK_iald2 86 38 (s.2.2 38) rfl rfl rfl q1 rfl ?_
      refine P_goto 90 rfl (fun _ => rfl) ?_
      exact dg_ss_circling_90 w c N D bb v1 s.1 s.1 ((s.2.2 38) s.1) ((s.2.2 38) v1) q1 g2 g2 (kE_i (KCn_a gm 38) rfl _) (kE_i (KCn_a gm 38) rfl _) s.2 gm (jk []) Q2 H1 H2
def kfb_ss_circling_42 (s : Int × mR) : Option (Sum (Int × mR) (mR)) :=
  if s.2.1 221 ≤ s.1 then
    some (.inr s.2)
  else
    bnd (whl (kfb_ss_circling_52 s.1) (0, s.2)) (fun e18 : mR =>
      kfl_ss_circling_98 s.1 e18)
theorem dh_ss_circling_42 (w : wX) (c : Nat → Option am_C) (N D : Nat) (bb : Nat) (Q2 : Sum (Int × mR) (mR) → ag_Re af_T → Prop) (H1 : ∀ s j, cs_ss_circling_42 s → PP bb w D pm_146 (hd_ss_circling_42 c N s j) (Q2 (.inl s))) (H2 : ∀ x j, cx_ss_circling_42 x → PP bb w D pm_146 (ex_ss_circling_42 c N x j) (Q2 (.inr x))) (s : Int × mR) (j : Nat → Int) (hs : cs_ss_circling_42 s) : PP (bb + 1) w D pm_146 (hd_ss_circling_42 c N s j) (QS Q2 (kfb_ss_circling_42 s)) := by
  obtain ⟨g1, gm⟩ := hs
  unfold kfb_ss_circling_42
  show PP (bb + 1) w D pm_146 (42, [(0, .ref 31), (1, .int (i32 s.1)), (2, .int (i32 (j 2)))], [], (khp (mO s.2 [] []) c, N), 0, 0) _
  refine P1_ld 43 (.int (i32 s.1)) rfl (fun _ => rfl) ?_
  refine P_ld 44 (.ref 31) rfl (fun _ => rfl) ?_
  refine PK_gf 47 (.int (i32 (s.2.1 221))) rfl rfl kd_31 rfl rfl rfl ?_
  refine P_icF 104 50 rfl rfl rfl g1 (KCn_i gm 221 rfl) rfl (fun h17 => ?_) (fun h17 => ?_)
  · skip
    refine P_some ?_
    exact H2 s.2 (jk [(1, s.1), (2, j 2)]) gm
  · skip
    refine P_ld 51 (.int (i32 0)) rfl (fun _ => rfl) ?_
    refine P_sto 52 [(2, .int (i32 0)), (0, .ref 31), (1, .int (i32 s.1))] rfl (fun _ => rfl) ?_
    refine P_lv (b := [(0, .ref 31), (1, .int (i32 s.1)), (2, .int (i32 0))]) rfl rfl ⟨rfl, rfl, rfl, trivial⟩ ?_
    refine P_bnd ?_
    refine P_whl (fun bb Q2 H1 H2 s9 j9 hs9 => dh_ss_circling_52 w c N D s.1 g1 bb Q2 H1 H2 s9 j9 hs9) bb (fun e18 j q19 => ?_) (0, s.2) (jk []) ⟨(l32 0 rfl), gm⟩
    have q20 := q19
    show PP bb w D pm_146 (98, [(0, .ref 31), (1, .int (i32 s.1)), (2, .int (i32 (j 2)))], [], (khp (mO e18 [] []) c, N), 0, 0) (QS _ (kfl_ss_circling_98 s.1 e18))
    exact dg_ss_circling_98 w c N D bb s.1 g1 e18 q20 (jk [(2, j 2)]) Q2 H1 H2
def kfl_ss_circling_40 (m : mR) : Option (Int × mR) :=
  bnd (whl kfb_ss_circling_42 (0, m)) (fun e21 : mR =>
    kfl_ss_circling_104 e21)
theorem dg_ss_circling_40 (w : wX) (c : Nat → Option am_C) (N D : Nat) (bb : Nat) (m : mR) (hm : KCn m) (j : Nat → Int) : PP bb w D pm_146 (40, [(0, .ref 31), (1, .int (i32 (j 1)))], [], (khp m c, N), 0, 0) (QS (FK1 c N) (kfl_ss_circling_40 m)) := by
  unfold kfl_ss_circling_40
  show PP bb w D pm_146 (40, [(0, .ref 31), (1, .int (i32 (j 1)))], [], (khp (mO m [] []) c, N), 0, 0) _
  refine P_ld 41 (.int (i32 0)) rfl (fun _ => rfl) ?_
  refine P_sto 42 [(1, .int (i32 0)), (0, .ref 31)] rfl (fun _ => rfl) ?_
  refine P_lv (b := [(0, .ref 31), (1, .int (i32 0)), (2, .int (i32 0))]) rfl rfl ⟨rfl, rfl, trivial⟩ ?_
  refine P_bnd ?_
  refine P_whl (fun bb Q2 H1 H2 s9 j9 hs9 => dh_ss_circling_42 w c N D bb Q2 H1 H2 s9 j9 hs9) bb (fun e21 j q22 => ?_) (0, m) (jk []) ⟨(l32 0 rfl), hm⟩
  have q23 := q22
  show PP bb w D pm_146 (104, [(0, .ref 31), (1, .int (i32 (j 1))), (2, .int (i32 (j 2)))], [], (khp (mO e21 [] []) c, N), 0, 0) (QS _ (kfl_ss_circling_104 e21))
  exact dg_ss_circling_104 w c N D bb e21 q23 (jk [(1, j 1), (2, j 2)])
def kfl_ss_circling_33 (v1 : Int) (u1 : Int) (u2 : Int) (m : mR) : Option (Sum (Int × mR) (mR)) :=
  some (.inl (cut (v1 + 1), (mO m [] [(38, upI (m.2 38) u1 u2)])))
theorem dg_ss_circling_33 (w : wX) (c : Nat → Option am_C) (N D : Nat) (bb : Nat) (v1 : Int) (u1 : Int) (u2 : Int) (q1 : R32 v1) (r1 : R32 u1) (r2 : R32 u2) (m : mR) (hm : KCn m) (j : Nat → Int) (Q2 : Sum (Int × mR) (mR) → ag_Re af_T → Prop) (H1 : ∀ s j, cs_ss_circling_2 s → PP bb w D pm_146 (hd_ss_circling_2 c N s j) (Q2 (.inl s))) (H2 : ∀ x j, cx_ss_circling_2 x → PP bb w D pm_146 (ex_ss_circling_2 c N x j) (Q2 (.inr x))) : PP bb w D pm_146 (33, [(0, .ref 31), (1, .int (i32 v1))], [.int (i32 u2), .int (i32 u1), .ref 44], (khp m c, N), 0, 0) (QS Q2 (kfl_ss_circling_33 v1 u1 u2 m)) := by
  unfold kfl_ss_circling_33
  show PP bb w D pm_146 (33, [(0, .ref 31), (1, .int (i32 v1))], [.int (i32 u2), .int (i32 u1), .ref 44], (khp (mO m [] []) c, N), 0, 0) _
  refine PK_iast2 (a' := [(38, upI (m.2 38) u1 u2)]) 34 38 (m.2 38) rfl rfl rfl r1 rfl rfl ?_
  refine P_inc 37 [(1, .int (i32 (cut (v1 + 1)))), (0, .ref 31)] rfl rfl (by decide) rfl rfl ?_
  refine P_goto 2 rfl (fun _ => rfl) ?_
  refine P_some ?_
  refine P_lv (b := [(0, .ref 31), (1, .int (i32 (cut (v1 + 1))))]) rfl rfl ⟨rfl, rfl, trivial⟩ ?_
  exact H1 (cut (v1 + 1), (mO m [] [(38, upI (m.2 38) u1 u2)])) (jk []) ⟨cut_r, (KCn_mO hm rfl rfl trivial ⟨(kE_ui (KCn_a hm 38) rfl r2), trivial⟩)⟩
def kfb_ss_circling_2 (s : Int × mR) : Option (Sum (Int × mR) (mR)) :=
  if s.2.1 221 ≤ s.1 then
    some (.inr s.2)
  else
    if (s.2.2 26) s.1 ≤ 0 then
      bnd (kf_ss_goalsOf s.1 s.2) fun y27 =>
      kfl_ss_circling_33 s.1 s.1 y27 s.2
    else
      kfl_ss_circling_33 s.1 s.1 0 s.2
theorem dh_ss_circling_2 (w : wX) (c : Nat → Option am_C) (N D : Nat) (bb : Nat) (Q2 : Sum (Int × mR) (mR) → ag_Re af_T → Prop) (H1 : ∀ s j, cs_ss_circling_2 s → PP bb w D pm_146 (hd_ss_circling_2 c N s j) (Q2 (.inl s))) (H2 : ∀ x j, cx_ss_circling_2 x → PP bb w D pm_146 (ex_ss_circling_2 c N x j) (Q2 (.inr x))) (s : Int × mR) (j : Nat → Int) (hs : cs_ss_circling_2 s) : PP (bb + 1) w D pm_146 (hd_ss_circling_2 c N s j) (QS Q2 (kfb_ss_circling_2 s)) := by
  obtain ⟨g1, gm⟩ := hs
  unfold kfb_ss_circling_2
  show PP (bb + 1) w D pm_146 (2, [(0, .ref 31), (1, .int (i32 s.1))], [], (khp (mO s.2 [] []) c, N), 0, 0) _
  refine P1_ld 3 (.int (i32 s.1)) rfl (fun _ => rfl) ?_
  refine P_ld 4 (.ref 31) rfl (fun _ => rfl) ?_
  refine PK_gf 7 (.int (i32 (s.2.1 221))) rfl rfl kd_31 rfl rfl rfl ?_
  refine P_icF 40 10 rfl rfl rfl g1 (KCn_i gm 221 rfl) rfl (fun h25 => ?_) (fun h25 => ?_)
  · skip
    refine P_some ?_
    exact H2 s.2 (jk [(1, s.1)]) gm
  · skip
    refine P_ld 11 (.ref 31) rfl (fun _ => rfl) ?_
    refine PK_gf 14 (.ref 44) rfl rfl kd_31 rfl rfl rfl ?_
    refine P_ld 15 (.int (i32 s.1)) rfl (fun _ => rfl) ?_
    refine P_ld 16 (.ref 31) rfl (fun _ => rfl) ?_
    refine PK_gf 19 (.ref 32) rfl rfl kd_31 rfl rfl rfl ?_
    refine P_ld 20 (.int (i32 s.1)) rfl (fun _ => rfl) ?_
    refine PK_iald2 21 26 (s.2.2 26) rfl rfl rfl g1 rfl ?_
    refine P_ifF 28 24 rfl rfl rfl (kE_i (KCn_a gm 26) rfl _) rfl (fun h26 => ?_) (fun h26 => ?_)
    · skip
      refine P_ld 29 (.ref 31) rfl (fun _ => rfl) ?_
      refine P_ld 30 (.int (i32 s.1)) rfl (fun _ => rfl) ?_
      refine P_cp1 33 147 [.ref 31, .int (i32 s.1)] [.int (i32 s.1), .ref 44] rfl (fun _ => rfl) rfl (D_ss_goalsOf w s.2 c N D gm s.1 g1) (fun y27 h28 => ?_)
      exact dg_ss_circling_33 w c N D bb s.1 s.1 y27 g1 g1 h28 s.2 gm (jk []) Q2 H1 H2
    · skip
      refine P_ld 25 (.int (i32 0)) rfl (fun _ => rfl) ?_
      refine P_goto 33 rfl (fun _ => rfl) ?_
      exact dg_ss_circling_33 w c N D bb s.1 s.1 0 g1 g1 (l32 0 rfl) s.2 gm (jk []) Q2 H1 H2
def kf_ss_circling (m : mR) : Option (Int × mR) :=
  bnd (whl kfb_ss_circling_2 (0, m)) (fun e30 : mR =>
    kfl_ss_circling_40 e30)
theorem D_ss_circling (w : wX) (m : mR) (c : Nat → Option am_C) (N D : Nat) (hm : KCn m) : PC w D 146 [.ref 31] (khp m c, N) (QS (FK1 c N) (kf_ss_circling m)) := by
  refine Pc_of (fun D bb => ?_) D
  unfold kf_ss_circling
  show PP bb w D pm_146 (0, [(0, .ref 31)], [], (khp (mO m [] []) c, N), 0, 0) _
  refine P_ld 1 (.int (i32 0)) rfl (fun _ => rfl) ?_
  refine P_sto 2 [(1, .int (i32 0)), (0, .ref 31)] rfl (fun _ => rfl) ?_
  refine P_lv (b := [(0, .ref 31), (1, .int (i32 0))]) rfl rfl ⟨rfl, rfl, trivial⟩ ?_
  refine P_bnd ?_
  refine P_whl (fun bb Q2 H1 H2 s9 j9 hs9 => dh_ss_circling_2 w c N D bb Q2 H1 H2 s9 j9 hs9) bb (fun e30 j q31 => ?_) (0, m) (jk []) ⟨(l32 0 rfl), hm⟩
  have q32 := q31
  show PP bb w D pm_146 (40, [(0, .ref 31), (1, .int (i32 (j 1)))], [], (khp (mO e30 [] []) c, N), 0, 0) (QS _ (kfl_ss_circling_40 e30))
  exact dg_ss_circling_40 w c N D bb e30 q32 (jk [(1, j 1)])
def kfl_rd_close_43 (m : mR) : Option (Int × Int × mR) :=
  bnd (kf_ss_circling m) fun y1 =>
  if y1.1 = (-1) then
    some (0, 0, y1.2)
  else
    bnd (kf_tx_fail 8 y1.1 y1.2) fun y5 =>
    if y5.1 = 0 then
      some (0, 0, y5.2.2)
    else
      some (y5.1, 0, y5.2.2)
theorem dg_rd_close_43 (w : wX) (c : Nat → Option am_C) (N D : Nat) (bb : Nat) (m : mR) (hm : KCn m) (j : Nat → Int) : PP bb w D pm_144 (43, [(0, .ref 178), (1, .int (i32 (j 1)))], [], (khp m c, N), 0, 0) (QS (FX0 c N) (kfl_rd_close_43 m)) := by
  unfold kfl_rd_close_43
  show PP bb w D pm_144 (43, [(0, .ref 178), (1, .int (i32 (j 1)))], [], (khp (mO m [] []) c, N), 0, 0) _
  refine P_ld 44 (.ref 178) rfl (fun _ => rfl) ?_
  refine PK_gf 47 (.ref 31) rfl rfl kd_178 rfl rfl rfl ?_
  refine P_ck1 50 146 [.ref 31] [] rfl (fun _ => rfl) rfl (D_ss_circling w m c N D hm) (fun y1 h2 n3 => ?_)
  refine P_sto 51 [(2, .int (i32 y1.1)), (0, .ref 178), (1, .int (i32 (j 1)))] rfl (fun _ => rfl) ?_
  refine P_ld 52 (.int (i32 y1.1)) rfl (fun _ => rfl) ?_
  refine P_ld 53 (.int (i32 (-1))) rfl (fun _ => rfl) ?_
  refine P_icF 66 56 rfl rfl rfl h2 (l32 (-1) rfl) rfl (fun h4 => ?_) (fun h4 => ?_)
  · skip
    exact P_rx0 rfl rfl n3
  · skip
    refine P_ld 57 (.ref 178) rfl (fun _ => rfl) ?_
    refine PK_gf 60 (.ref 6) rfl rfl kd_178 rfl rfl rfl ?_
    refine P_ld 62 (.int (i32 8)) rfl (fun _ => rfl) ?_
    refine P_ld 63 (.int (i32 y1.1)) rfl (fun _ => rfl) ?_
    refine P_cx0 66 51 [.ref 6, .int (i32 8), .int (i32 y1.1)] [] rfl (fun _ => rfl) rfl rfl (D_tx_fail w y1.2 c N D n3 8 y1.1 (l32 8 rfl) h2) (fun y x hm e => ⟨_, rfl, hm, Or.inr ⟨x, e, rfl⟩⟩) (fun y5 n7 => ?_)
    exact P_rx0 rfl rfl n7
def kfl_rd_close_20 (m : mR) : Option (Int × Int × mR) :=
  bnd (kf_ss_missing m) fun y8 =>
  if y8 = (-1) then
    kfl_rd_close_43 m
  else
    bnd (kf_tx_fail 6 y8 m) fun y12 =>
    if y12.1 = 0 then
      kfl_rd_close_43 y12.2.2
    else
      some (y12.1, 0, y12.2.2)
theorem dg_rd_close_20 (w : wX) (c : Nat → Option am_C) (N D : Nat) (bb : Nat) (m : mR) (hm : KCn m) (j : Nat → Int) : PP bb w D pm_144 (20, [(0, .ref 178)], [], (khp m c, N), 0, 0) (QS (FX0 c N) (kfl_rd_close_20 m)) := by
  unfold kfl_rd_close_20
  show PP bb w D pm_144 (20, [(0, .ref 178)], [], (khp (mO m [] []) c, N), 0, 0) _
  refine P_ld 21 (.ref 178) rfl (fun _ => rfl) ?_
  refine PK_gf 24 (.ref 31) rfl rfl kd_178 rfl rfl rfl ?_
  refine P_cp1 27 145 [.ref 31] [] rfl (fun _ => rfl) rfl (D_ss_missing w m c N D hm) (fun y8 h9 => ?_)
  refine P_sto 28 [(1, .int (i32 y8)), (0, .ref 178)] rfl (fun _ => rfl) ?_
  refine P_ld 29 (.int (i32 y8)) rfl (fun _ => rfl) ?_
  refine P_ld 30 (.int (i32 (-1))) rfl (fun _ => rfl) ?_
  refine P_icF 43 33 rfl rfl rfl h9 (l32 (-1) rfl) rfl (fun h11 => ?_) (fun h11 => ?_)
  · skip
    refine P_lv (b := [(0, .ref 178), (1, .int (i32 y8))]) rfl rfl ⟨rfl, rfl, trivial⟩ ?_
    exact dg_rd_close_43 w c N D bb m hm (jk [(1, y8)])
  · skip
    refine P_ld 34 (.ref 178) rfl (fun _ => rfl) ?_
    refine PK_gf 37 (.ref 6) rfl rfl kd_178 rfl rfl rfl ?_
    refine P_ld 39 (.int (i32 6)) rfl (fun _ => rfl) ?_
    refine P_ld 40 (.int (i32 y8)) rfl (fun _ => rfl) ?_
    refine P_cx0 43 51 [.ref 6, .int (i32 6), .int (i32 y8)] [] rfl (fun _ => rfl) rfl rfl (D_tx_fail w m c N D hm 6 y8 (l32 6 rfl) h9) (fun y x hm e => ⟨_, rfl, hm, Or.inr ⟨x, e, rfl⟩⟩) (fun y12 n14 => ?_)
    refine P_lv (b := [(0, .ref 178), (1, .int (i32 y8))]) rfl rfl ⟨rfl, rfl, trivial⟩ ?_
    exact dg_rd_close_43 w c N D bb y12.2.2 n14 (jk [(1, y8)])
def kf_rd_close (m : mR) : Option (Int × Int × mR) :=
  if m.1 206 = 258 then
    kfl_rd_close_20 m
  else
    bnd (kf_tx_refuse m) fun y16 =>
    if y16.1 = 0 then
      kfl_rd_close_20 y16.2.2
    else
      some (y16.1, 0, y16.2.2)
theorem D_rd_close (w : wX) (m : mR) (c : Nat → Option am_C) (N D : Nat) (hm : KCn m) : PC w D 144 [.ref 178] (khp m c, N) (QS (FX0 c N) (kf_rd_close m)) := by
  refine Pc_of (fun D bb => ?_) D
  unfold kf_rd_close
  show PP bb w D pm_144 (0, [(0, .ref 178)], [], (khp (mO m [] []) c, N), 0, 0) _
  refine P_ld 1 (.ref 178) rfl (fun _ => rfl) ?_
  refine PK_gf 4 (.ref 6) rfl rfl kd_178 rfl rfl rfl ?_
  refine PK_gf 7 (.int (i32 (m.1 206))) rfl rfl kd_6 rfl rfl rfl ?_
  refine P_ld 10 (.int (i32 258)) rfl (fun _ => rfl) ?_
  refine P_icF 20 13 rfl rfl rfl (KCn_i hm 206 rfl) (l32 258 rfl) rfl (fun h15 => ?_) (fun h15 => ?_)
  · skip
    exact dg_rd_close_20 w c N D bb m hm (jk [])
  · skip
    refine P_ld 14 (.ref 178) rfl (fun _ => rfl) ?_
    refine PK_gf 17 (.ref 6) rfl rfl kd_178 rfl rfl rfl ?_
    refine P_cx0 20 76 [.ref 6] [] rfl (fun _ => rfl) rfl rfl (D_tx_refuse w m c N D hm) (fun y x hm e => ⟨_, rfl, hm, Or.inr ⟨x, e, rfl⟩⟩) (fun y16 n18 => ?_)
    exact dg_rd_close_20 w c N D bb y16.2.2 n18 (jk [])
def kf_sp_add (v1 : Int) (v2 : Int) (v3 : Int) (m : mR) : Option (Int × mR) :=
  some (m.1 225, (mO m [(225, cut ((m.1 225) + 1))] [(52, upI (m.2 52) (m.1 225) v1), (53, upI (m.2 53) (m.1 225) v2), (54, upI (m.2 54) (m.1 225) v3), (55, upI (m.2 55) (m.1 225) (-1)), (56, upI (m.2 56) (m.1 225) (-1)), (58, upI (m.2 58) (m.1 225) (-1))]))
theorem D_sp_add (w : wX) (m : mR) (c : Nat → Option am_C) (N D : Nat) (hm : KCn m) (v1 : Int) (v2 : Int) (v3 : Int) (q1 : R32 v1) (q2 : R32 v2) (q3 : R32 v3) : PC w D 139 [.ref 59, .int (i32 v1), .int (i32 v2), .int (i32 v3)] (khp m c, N) (QS (FK1 c N) (kf_sp_add v1 v2 v3 m)) := by
  refine Pc_of (fun D bb => ?_) D
  unfold kf_sp_add
  show PP bb w D pm_139 (0, [(0, .ref 59), (1, .int (i32 v1)), (2, .int (i32 v2)), (3, .int (i32 v3))], [], (khp (mO m [] []) c, N), 0, 0) _
  refine P_ld 1 (.ref 59) rfl (fun _ => rfl) ?_
  refine PK_gf 4 (.int (i32 (m.1 225))) rfl rfl kd_59 rfl rfl rfl ?_
  refine P_sto 6 [(4, .int (i32 (m.1 225))), (0, .ref 59), (1, .int (i32 v1)), (2, .int (i32 v2)), (3, .int (i32 v3))] rfl (fun _ => rfl) ?_
  refine P_ld 7 (.ref 59) rfl (fun _ => rfl) ?_
  refine PK_gf 10 (.ref 60) rfl rfl kd_59 rfl rfl rfl ?_
  refine P_ld 12 (.int (i32 (m.1 225))) rfl (fun _ => rfl) ?_
  refine P_ld 13 (.int (i32 v1)) rfl (fun _ => rfl) ?_
  refine PK_iast2 (a' := [(52, upI (m.2 52) (m.1 225) v1)]) 14 52 (m.2 52) rfl rfl rfl (KCn_i hm 225 rfl) rfl rfl ?_
  refine P_ld 15 (.ref 59) rfl (fun _ => rfl) ?_
  refine PK_gf 18 (.ref 61) rfl rfl kd_59 rfl rfl rfl ?_
  refine P_ld 20 (.int (i32 (m.1 225))) rfl (fun _ => rfl) ?_
  refine P_ld 21 (.int (i32 v2)) rfl (fun _ => rfl) ?_
  refine PK_iast2 (a' := [(52, upI (m.2 52) (m.1 225) v1), (53, upI (m.2 53) (m.1 225) v2)]) 22 53 (m.2 53) rfl rfl rfl (KCn_i hm 225 rfl) rfl rfl ?_
  refine P_ld 23 (.ref 59) rfl (fun _ => rfl) ?_
  refine PK_gf 26 (.ref 62) rfl rfl kd_59 rfl rfl rfl ?_
  refine P_ld 28 (.int (i32 (m.1 225))) rfl (fun _ => rfl) ?_
  refine P_ld 29 (.int (i32 v3)) rfl (fun _ => rfl) ?_
  refine PK_iast2 (a' := [(52, upI (m.2 52) (m.1 225) v1), (53, upI (m.2 53) (m.1 225) v2), (54, upI (m.2 54) (m.1 225) v3)]) 30 54 (m.2 54) rfl rfl rfl (KCn_i hm 225 rfl) rfl rfl ?_
  refine P_ld 31 (.ref 59) rfl (fun _ => rfl) ?_
  refine PK_gf 34 (.ref 63) rfl rfl kd_59 rfl rfl rfl ?_
  refine P_ld 36 (.int (i32 (m.1 225))) rfl (fun _ => rfl) ?_
  refine P_ld 37 (.int (i32 (-1))) rfl (fun _ => rfl) ?_
  refine PK_iast2 (a' := [(52, upI (m.2 52) (m.1 225) v1), (53, upI (m.2 53) (m.1 225) v2), (54, upI (m.2 54) (m.1 225) v3), (55, upI (m.2 55) (m.1 225) (-1))]) 38 55 (m.2 55) rfl rfl rfl (KCn_i hm 225 rfl) rfl rfl ?_
  refine P_ld 39 (.ref 59) rfl (fun _ => rfl) ?_
  refine PK_gf 42 (.ref 64) rfl rfl kd_59 rfl rfl rfl ?_
  refine P_ld 44 (.int (i32 (m.1 225))) rfl (fun _ => rfl) ?_
  refine P_ld 45 (.int (i32 (-1))) rfl (fun _ => rfl) ?_
  refine PK_iast2 (a' := [(52, upI (m.2 52) (m.1 225) v1), (53, upI (m.2 53) (m.1 225) v2), (54, upI (m.2 54) (m.1 225) v3), (55, upI (m.2 55) (m.1 225) (-1)), (56, upI (m.2 56) (m.1 225) (-1))]) 46 56 (m.2 56) rfl rfl rfl (KCn_i hm 225 rfl) rfl rfl ?_
  refine P_ld 47 (.ref 59) rfl (fun _ => rfl) ?_
  refine PK_gf 50 (.ref 66) rfl rfl kd_59 rfl rfl rfl ?_
  refine P_ld 52 (.int (i32 (m.1 225))) rfl (fun _ => rfl) ?_
  refine P_ld 53 (.int (i32 (-1))) rfl (fun _ => rfl) ?_
  refine PK_iast2 (a' := [(52, upI (m.2 52) (m.1 225) v1), (53, upI (m.2 53) (m.1 225) v2), (54, upI (m.2 54) (m.1 225) v3), (55, upI (m.2 55) (m.1 225) (-1)), (56, upI (m.2 56) (m.1 225) (-1)), (58, upI (m.2 58) (m.1 225) (-1))]) 54 58 (m.2 58) rfl rfl rfl (KCn_i hm 225 rfl) rfl rfl ?_
  refine P_ld 55 (.ref 59) rfl (fun _ => rfl) ?_
  refine P_ld 56 (.ref 59) rfl (fun _ => rfl) ?_
  refine PK_gf 59 (.int (i32 (m.1 225))) rfl rfl kd_59 rfl rfl rfl ?_
  refine P_ld 60 (.int (i32 1)) rfl (fun _ => rfl) ?_
  refine P_op 61 (cut ((m.1 225) + 1)) _ rfl (fun _ => rfl) o_add ?_
  refine PK_pf (l' := [(225, cut ((m.1 225) + 1))]) 64 (cut ((m.1 225) + 1)) rfl rfl kd_59 rfl rfl rfl rfl rfl rfl rfl ?_
  refine P_ld 66 (.int (i32 (m.1 225))) rfl (fun _ => rfl) ?_
  exact P_rk1 rfl (KCn_i hm 225 rfl) (KCn_mO hm rfl rfl ⟨(kV_i rfl cut_r), trivial⟩ ⟨(kE_ui (KCn_a hm 52) rfl q1), (kE_ui (KCn_a hm 53) rfl q2), (kE_ui (KCn_a hm 54) rfl q3), (kE_ui (KCn_a hm 55) rfl (l32 (-1) rfl)), (kE_ui (KCn_a hm 56) rfl (l32 (-1) rfl)), (kE_ui (KCn_a hm 58) rfl (l32 (-1) rfl)), trivial⟩)
def kf_ac_addDeed (v1 : Int) (m : mR) : Option (Int × mR) :=
  some (m.1 224, (mO m [(224, cut ((m.1 224) + 1))] [(45, upI (m.2 45) (m.1 224) v1), (46, upI (m.2 46) (m.1 224) (-1)), (47, upI (m.2 47) (m.1 224) (-1)), (49, upI (m.2 49) (m.1 224) (-1)), (51, upI (m.2 51) (m.1 224) (-1))]))
theorem D_ac_addDeed (w : wX) (m : mR) (c : Nat → Option am_C) (N D : Nat) (hm : KCn m) (v1 : Int) (q1 : R32 v1) : PC w D 123 [.ref 45, .int (i32 v1)] (khp m c, N) (QS (FK1 c N) (kf_ac_addDeed v1 m)) := by
  refine Pc_of (fun D bb => ?_) D
  unfold kf_ac_addDeed
  show PP bb w D pm_123 (0, [(0, .ref 45), (1, .int (i32 v1))], [], (khp (mO m [] []) c, N), 0, 0) _
  refine P_ld 1 (.ref 45) rfl (fun _ => rfl) ?_
  refine PK_gf 4 (.int (i32 (m.1 224))) rfl rfl kd_45 rfl rfl rfl ?_
  refine P_sto 5 [(2, .int (i32 (m.1 224))), (0, .ref 45), (1, .int (i32 v1))] rfl (fun _ => rfl) ?_
  refine P_ld 6 (.ref 45) rfl (fun _ => rfl) ?_
  refine PK_gf 9 (.ref 52) rfl rfl kd_45 rfl rfl rfl ?_
  refine P_ld 10 (.int (i32 (m.1 224))) rfl (fun _ => rfl) ?_
  refine P_ld 11 (.int (i32 v1)) rfl (fun _ => rfl) ?_
  refine PK_iast2 (a' := [(45, upI (m.2 45) (m.1 224) v1)]) 12 45 (m.2 45) rfl rfl rfl (KCn_i hm 224 rfl) rfl rfl ?_
  refine P_ld 13 (.ref 45) rfl (fun _ => rfl) ?_
  refine PK_gf 16 (.ref 53) rfl rfl kd_45 rfl rfl rfl ?_
  refine P_ld 17 (.int (i32 (m.1 224))) rfl (fun _ => rfl) ?_
  refine P_ld 18 (.int (i32 (-1))) rfl (fun _ => rfl) ?_
  refine PK_iast2 (a' := [(45, upI (m.2 45) (m.1 224) v1), (46, upI (m.2 46) (m.1 224) (-1))]) 19 46 (m.2 46) rfl rfl rfl (KCn_i hm 224 rfl) rfl rfl ?_
  refine P_ld 20 (.ref 45) rfl (fun _ => rfl) ?_
  refine PK_gf 23 (.ref 54) rfl rfl kd_45 rfl rfl rfl ?_
  refine P_ld 24 (.int (i32 (m.1 224))) rfl (fun _ => rfl) ?_
  refine P_ld 25 (.int (i32 (-1))) rfl (fun _ => rfl) ?_
  refine PK_iast2 (a' := [(45, upI (m.2 45) (m.1 224) v1), (46, upI (m.2 46) (m.1 224) (-1)), (47, upI (m.2 47) (m.1 224) (-1))]) 26 47 (m.2 47) rfl rfl rfl (KCn_i hm 224 rfl) rfl rfl ?_
  refine P_ld 27 (.ref 45) rfl (fun _ => rfl) ?_
  refine PK_gf 30 (.ref 56) rfl rfl kd_45 rfl rfl rfl ?_
  refine P_ld 31 (.int (i32 (m.1 224))) rfl (fun _ => rfl) ?_
  refine P_ld 32 (.int (i32 (-1))) rfl (fun _ => rfl) ?_
  refine PK_iast2 (a' := [(45, upI (m.2 45) (m.1 224) v1), (46, upI (m.2 46) (m.1 224) (-1)), (47, upI (m.2 47) (m.1 224) (-1)), (49, upI (m.2 49) (m.1 224) (-1))]) 33 49 (m.2 49) rfl rfl rfl (KCn_i hm 224 rfl) rfl rfl ?_
  refine P_ld 34 (.ref 45) rfl (fun _ => rfl) ?_
  refine PK_gf 37 (.ref 58) rfl rfl kd_45 rfl rfl rfl ?_
  refine P_ld 38 (.int (i32 (m.1 224))) rfl (fun _ => rfl) ?_
  refine P_ld 39 (.int (i32 (-1))) rfl (fun _ => rfl) ?_
  refine PK_iast2 (a' := [(45, upI (m.2 45) (m.1 224) v1), (46, upI (m.2 46) (m.1 224) (-1)), (47, upI (m.2 47) (m.1 224) (-1)), (49, upI (m.2 49) (m.1 224) (-1)), (51, upI (m.2 51) (m.1 224) (-1))]) 40 51 (m.2 51) rfl rfl rfl (KCn_i hm 224 rfl) rfl rfl ?_
  refine P_ld 41 (.ref 45) rfl (fun _ => rfl) ?_
  refine P_ld 42 (.ref 45) rfl (fun _ => rfl) ?_
  refine PK_gf 45 (.int (i32 (m.1 224))) rfl rfl kd_45 rfl rfl rfl ?_
  refine P_ld 46 (.int (i32 1)) rfl (fun _ => rfl) ?_
  refine P_op 47 (cut ((m.1 224) + 1)) _ rfl (fun _ => rfl) o_add ?_
  refine PK_pf (l' := [(224, cut ((m.1 224) + 1))]) 50 (cut ((m.1 224) + 1)) rfl rfl kd_45 rfl rfl rfl rfl rfl rfl rfl ?_
  refine P_ld 51 (.int (i32 (m.1 224))) rfl (fun _ => rfl) ?_
  exact P_rk1 rfl (KCn_i hm 224 rfl) (KCn_mO hm rfl rfl ⟨(kV_i rfl cut_r), trivial⟩ ⟨(kE_ui (KCn_a hm 45) rfl q1), (kE_ui (KCn_a hm 46) rfl (l32 (-1) rfl)), (kE_ui (KCn_a hm 47) rfl (l32 (-1) rfl)), (kE_ui (KCn_a hm 49) rfl (l32 (-1) rfl)), (kE_ui (KCn_a hm 51) rfl (l32 (-1) rfl)), trivial⟩)
end X28E
