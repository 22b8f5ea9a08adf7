noncomputable section X28Q
def cs_sp_gatherAction_9 (s : Int × mR) : Prop := R32 s.1 ∧ KCn s.2
def cx_sp_gatherAction_9 : (mR) → Prop := (fun (e : mR) => KCn e)
def hd_sp_gatherAction_9 (c : Nat → Option am_C) (N : Nat) (v2 : Int) (v3 : Int) (s : Int × mR) (j : Nat → Int) : ag_St af_T := (9, [(0, .ref 59), (1, .ref 12), (2, .int (i32 v2)), (3, .int (i32 v3)), (4, .ref 45), (5, .int (i32 s.1))], [], (khp s.2 c, N), 0, 0)
def ex_sp_gatherAction_9 (c : Nat → Option am_C) (N : Nat) (v2 : Int) (v3 : Int) : (mR) → (Nat → Int) → ag_St af_T := (fun (e : mR) (j : Nat → Int) => ((43, [(0, .ref 59), (1, .ref 12), (2, .int (i32 (j 2))), (3, .int (i32 (j 3))), (4, .ref 45), (5, .int (i32 (j 5)))], [], (khp e c, N), 0, 0) : ag_St af_T))
def kfb_sp_gatherAction_9 (v2 : Int) (v3 : Int) (s : Int × mR) : Option (Sum (Int × mR) (mR)) :=
  if (s.2.2 44) v3 ≤ s.1 then
    some (.inr s.2)
  else
    bnd (kf_sp_gatherDeed v2 (cut (((s.2.2 43) v3) + s.1)) s.2) fun y4 =>
    some (.inl (cut (s.1 + 1), y4.2))
theorem dh_sp_gatherAction_9 (w : wX) (c : Nat → Option am_C) (N D : Nat) (v2 : Int) (v3 : Int) (q2 : R32 v2) (q3 : R32 v3) (bb : Nat) (Q2 : Sum (Int × mR) (mR) → ag_Re af_T → Prop) (H1 : ∀ s j, cs_sp_gatherAction_9 s → PP bb w D pm_155 (hd_sp_gatherAction_9 c N v2 v3 s j) (Q2 (.inl s))) (H2 : ∀ x j, cx_sp_gatherAction_9 x → PP bb w D pm_155 (ex_sp_gatherAction_9 c N v2 v3 x j) (Q2 (.inr x))) (s : Int × mR) (j : Nat → Int) (hs : cs_sp_gatherAction_9 s) : PP (bb + 1) w D pm_155 (hd_sp_gatherAction_9 c N v2 v3 s j) (QS Q2 (kfb_sp_gatherAction_9 v2 v3 s)) := by
  obtain ⟨g5, gm⟩ := hs
  unfold kfb_sp_gatherAction_9
  show PP (bb + 1) w D pm_155 (9, [(0, .ref 59), (1, .ref 12), (2, .int (i32 v2)), (3, .int (i32 v3)), (4, .ref 45), (5, .int (i32 s.1))], [], (khp (mO s.2 [] []) c, N), 0, 0) _
  refine P1_ld 11 (.int (i32 s.1)) rfl (fun _ => rfl) ?_
  refine P_ld 13 (.ref 45) rfl (fun _ => rfl) ?_
  refine PK_gf 16 (.ref 51) rfl rfl kd_45 rfl rfl rfl ?_
  refine P_ld 17 (.int (i32 v3)) rfl (fun _ => rfl) ?_
  refine PK_iald2 18 44 (s.2.2 44) rfl rfl rfl q3 rfl ?_
  refine P_icF 43 21 rfl rfl rfl g5 (kE_i (KCn_a gm 44) rfl _) rfl (fun h3 => ?_) (fun h3 => ?_)
  · skip
    refine P_some ?_
    exact H2 s.2 (jk [(2, v2), (3, v3), (5, s.1)]) gm
  · skip
    refine P_ld 22 (.ref 59) rfl (fun _ => rfl) ?_
    refine P_ld 23 (.ref 12) rfl (fun _ => rfl) ?_
    refine P_ld 24 (.int (i32 v2)) rfl (fun _ => rfl) ?_
    refine P_ld 26 (.ref 45) rfl (fun _ => rfl) ?_
    refine PK_gf 29 (.ref 50) rfl rfl kd_45 rfl rfl rfl ?_
    refine P_ld 30 (.int (i32 v3)) rfl (fun _ => rfl) ?_
    refine PK_iald2 31 43 (s.2.2 43) rfl rfl rfl q3 rfl ?_
    refine P_ld 33 (.int (i32 s.1)) rfl (fun _ => rfl) ?_
    refine P_op 34 (cut (((s.2.2 43) v3) + s.1)) _ rfl (fun _ => rfl) o_add ?_
    refine P_ck0 37 154 [.ref 59, .ref 12, .int (i32 v2), .int (i32 (cut (((s.2.2 43) v3) + s.1)))] [] rfl (fun _ => rfl) rfl (D_sp_gatherDeed w s.2 c N D gm v2 (cut (((s.2.2 43) v3) + s.1)) q2 cut_r) (fun y4 n6 => ?_)
    refine P_inc 40 [(5, .int (i32 (cut (s.1 + 1)))), (0, .ref 59), (1, .ref 12), (2, .int (i32 v2)), (3, .int (i32 v3)), (4, .ref 45)] rfl rfl (by decide) rfl rfl ?_
    refine P_goto 9 rfl (fun _ => rfl) ?_
    refine P_some ?_
    refine P_lv (b := [(0, .ref 59), (1, .ref 12), (2, .int (i32 v2)), (3, .int (i32 v3)), (4, .ref 45), (5, .int (i32 (cut (s.1 + 1))))]) rfl rfl ⟨rfl, rfl, rfl, rfl, rfl, rfl, trivial⟩ ?_
    exact H1 (cut (s.1 + 1), y4.2) (jk []) ⟨cut_r, n6⟩
def kf_sp_gatherAction (v2 : Int) (v3 : Int) (m : mR) : Option (Int × mR) :=
  bnd (whl (kfb_sp_gatherAction_9 v2 v3) (0, m)) (fun e7 : mR =>
    some (0, e7))
theorem D_sp_gatherAction (w : wX) (m : mR) (c : Nat → Option am_C) (N D : Nat) (hm : KCn m) (v2 : Int) (v3 : Int) (q2 : R32 v2) (q3 : R32 v3) : PC w D 155 [.ref 59, .ref 12, .int (i32 v2), .int (i32 v3)] (khp m c, N) (QS (FK0 c N) (kf_sp_gatherAction v2 v3 m)) := by
  refine Pc_of (fun D bb => ?_) D
  unfold kf_sp_gatherAction
  show PP bb w D pm_155 (0, [(0, .ref 59), (1, .ref 12), (2, .int (i32 v2)), (3, .int (i32 v3))], [], (khp (mO m [] []) c, N), 0, 0) _
  refine P_ld 1 (.ref 12) rfl (fun _ => rfl) ?_
  refine PK_gf 4 (.ref 45) rfl rfl kd_12 rfl rfl rfl ?_
  refine P_sto 6 [(4, .ref 45), (0, .ref 59), (1, .ref 12), (2, .int (i32 v2)), (3, .int (i32 v3))] rfl (fun _ => rfl) ?_
  refine P_ld 7 (.int (i32 0)) rfl (fun _ => rfl) ?_
  refine P_sto 9 [(5, .int (i32 0)), (4, .ref 45), (0, .ref 59), (1, .ref 12), (2, .int (i32 v2)), (3, .int (i32 v3))] rfl (fun _ => rfl) ?_
  refine P_lv (b := [(0, .ref 59), (1, .ref 12), (2, .int (i32 v2)), (3, .int (i32 v3)), (4, .ref 45), (5, .int (i32 0))]) rfl rfl ⟨rfl, rfl, rfl, rfl, rfl, rfl, trivial⟩ ?_
  refine P_bnd ?_
  refine P_whl (fun bb Q2 H1 H2 s9 j9 hs9 => dh_sp_gatherAction_9 w c N D v2 v3 q2 q3 bb Q2 H1 H2 s9 j9 hs9) bb (fun e7 j q8 => ?_) (0, m) (jk []) ⟨(l32 0 rfl), hm⟩
  have q9 := q8
  show PP bb w D pm_155 (43, [(0, .ref 59), (1, .ref 12), (2, .int (i32 (j 2))), (3, .int (i32 (j 3))), (4, .ref 45), (5, .int (i32 (j 5)))], [], (khp (mO e7 [] []) c, N), 0, 0) (QS _ (some (0, e7)))
  exact P_rk0 rfl rfl q9
def cs_sp_gather_2 (s : Int × mR) : Prop := R32 s.1 ∧ KCn s.2
def cx_sp_gather_2 : (mR) → Prop := (fun (e : mR) => KCn e)
def hd_sp_gather_2 (c : Nat → Option am_C) (N : Nat) (v2 : Int) (s : Int × mR) (j : Nat → Int) : ag_St af_T := (2, [(0, .ref 59), (1, .ref 12), (2, .int (i32 v2)), (3, .int (i32 s.1))], [], (khp s.2 c, N), 0, 0)
def ex_sp_gather_2 (c : Nat → Option am_C) (N : Nat) (v2 : Int) : (mR) → (Nat → Int) → ag_St af_T := (fun (e : mR) (j : Nat → Int) => ((35, [(0, .ref 59), (1, .ref 12), (2, .int (i32 v2)), (3, .int (i32 (j 3)))], [], (khp e c, N), 0, 0) : ag_St af_T))
def cs_sp_gather_115 (s : Int × mR) : Prop := R32 s.1 ∧ KCn s.2
def cx_sp_gather_115 : (mR) → Prop := (fun (e : mR) => KCn e)
def hd_sp_gather_115 (c : Nat → Option am_C) (N : Nat) (v2 : Int) (v3 : Int) (s : Int × mR) (j : Nat → Int) : ag_St af_T := (115, [(0, .ref 59), (1, .ref 12), (2, .int (i32 v2)), (3, .ref (tbr v3)), (4, .int (i32 s.1))], [], (khp s.2 c, N), 0, 0)
def ex_sp_gather_115 (c : Nat → Option am_C) (N : Nat) (v2 : Int) (v3 : Int) : (mR) → (Nat → Int) → ag_St af_T := (fun (e : mR) (j : Nat → Int) => ((153, [(0, .ref 59), (1, .ref 12), (2, .int (i32 v2)), (3, .ref (tbr v3)), (4, .int (i32 (j 4)))], [], (khp e c, N), 0, 0) : ag_St af_T))
def cs_sp_gather_156 (s : Int × mR) : Prop := R32 s.1 ∧ KCn s.2
def cx_sp_gather_156 : (mR) → Prop := (fun (e : mR) => KCn e)
def hd_sp_gather_156 (c : Nat → Option am_C) (N : Nat) (v2 : Int) (v3 : Int) (s : Int × mR) (j : Nat → Int) : ag_St af_T := (156, [(0, .ref 59), (1, .ref 12), (2, .int (i32 v2)), (3, .ref (tbr v3)), (4, .int (i32 s.1))], [], (khp s.2 c, N), 0, 0)
def ex_sp_gather_156 (c : Nat → Option am_C) (N : Nat) (v2 : Int) (v3 : Int) : (mR) → (Nat → Int) → ag_St af_T := (fun (e : mR) (j : Nat → Int) => ((184, [(0, .ref 59), (1, .ref 12), (2, .int (i32 v2)), (3, .ref (tbr v3)), (4, .int (i32 (j 4)))], [], (khp e c, N), 0, 0) : ag_St af_T))
def kfl_sp_gather_184 (v2 : Int) (v3 : Int) (m : mR) : Option (Int × mR) :=
  bnd (kf_sp_gatherAction v2 ((m.2 74) v3) m) fun y4 =>
  some (0, y4.2)
theorem dg_sp_gather_184 (w : wX) (c : Nat → Option am_C) (N D : Nat) (bb : Nat) (v2 : Int) (v3 : Int) (q2 : R32 v2) (q3 : Rt v3) (m : mR) (hm : KCn m) (j : Nat → Int) : PP bb w D pm_151 (184, [(0, .ref 59), (1, .ref 12), (2, .int (i32 v2)), (3, .ref (tbr v3)), (4, .int (i32 (j 4)))], [], (khp m c, N), 0, 0) (QS (FK0 c N) (kfl_sp_gather_184 v2 v3 m)) := by
  unfold kfl_sp_gather_184
  show PP bb w D pm_151 (184, [(0, .ref 59), (1, .ref 12), (2, .int (i32 v2)), (3, .ref (tbr v3)), (4, .int (i32 (j 4)))], [], (khp (mO m [] []) c, N), 0, 0) _
  refine P_ld 185 (.ref 59) rfl (fun _ => rfl) ?_
  refine P_ld 186 (.ref 12) rfl (fun _ => rfl) ?_
  refine P_ld 187 (.int (i32 v2)) rfl (fun _ => rfl) ?_
  refine P_ld 188 (.ref (tbr v3)) rfl (fun _ => rfl) ?_
  refine PK_gfi 191 74 (m.2 74) rfl rfl q3.1 q3.2 rfl rfl ?_
  refine P_ck0 194 155 [.ref 59, .ref 12, .int (i32 v2), .int (i32 ((m.2 74) v3))] [] rfl (fun _ => rfl) rfl (D_sp_gatherAction w m c N D hm v2 ((m.2 74) v3) q2 (kE_i (KCn_a hm 74) rfl _)) (fun y4 n6 => ?_)
  exact P_rk0 rfl rfl n6
def kfb_sp_gather_156 (v2 : Int) (v3 : Int) (s : Int × mR) : Option (Sum (Int × mR) (mR)) :=
  if (s.2.2 73) v3 ≤ s.1 then
    some (.inr s.2)
  else
    bnd (kf_sp_gatherAction v2 ((s.2.2 83) (65536 * v3 + s.1)) s.2) fun y9 =>
    some (.inl (cut (s.1 + 1), y9.2))
theorem dh_sp_gather_156 (w : wX) (c : Nat → Option am_C) (N D : Nat) (v2 : Int) (v3 : Int) (q2 : R32 v2) (q3 : Rt v3) (bb : Nat) (Q2 : Sum (Int × mR) (mR) → ag_Re af_T → Prop) (H1 : ∀ s j, cs_sp_gather_156 s → PP bb w D pm_151 (hd_sp_gather_156 c N v2 v3 s j) (Q2 (.inl s))) (H2 : ∀ x j, cx_sp_gather_156 x → PP bb w D pm_151 (ex_sp_gather_156 c N v2 v3 x j) (Q2 (.inr x))) (s : Int × mR) (j : Nat → Int) (hs : cs_sp_gather_156 s) : PP (bb + 1) w D pm_151 (hd_sp_gather_156 c N v2 v3 s j) (QS Q2 (kfb_sp_gather_156 v2 v3 s)) := by
  obtain ⟨g4, gm⟩ := hs
  unfold kfb_sp_gather_156
  show PP (bb + 1) w D pm_151 (156, [(0, .ref 59), (1, .ref 12), (2, .int (i32 v2)), (3, .ref (tbr v3)), (4, .int (i32 s.1))], [], (khp (mO s.2 [] []) c, N), 0, 0) _
  refine P1_ld 158 (.int (i32 s.1)) rfl (fun _ => rfl) ?_
  refine P_ld 159 (.ref (tbr v3)) rfl (fun _ => rfl) ?_
  refine PK_gfi 162 73 (s.2.2 73) rfl rfl q3.1 q3.2 rfl rfl ?_
  refine P_icF 184 165 rfl rfl rfl g4 (kE_i (KCn_a gm 73) rfl _) rfl (fun h8 => ?_) (fun h8 => ?_)
  · skip
    refine P_some ?_
    exact H2 s.2 (jk [(4, s.1)]) gm
  · skip
    refine P_ld 166 (.ref 59) rfl (fun _ => rfl) ?_
    refine P_ld 167 (.ref 12) rfl (fun _ => rfl) ?_
    refine P_ld 168 (.int (i32 v2)) rfl (fun _ => rfl) ?_
    refine P_ld 169 (.ref (tbr v3)) rfl (fun _ => rfl) ?_
    refine PK_gfr 172 rfl rfl q3.1 q3.2 rfl ?_
    refine P_ld 174 (.int (i32 s.1)) rfl (fun _ => rfl) ?_
    refine PK_ialt2 175 4 (s.2.2 83) rfl rfl rfl q3 g4 rfl ?_
    refine P_ck0 178 155 [.ref 59, .ref 12, .int (i32 v2), .int (i32 ((s.2.2 83) (65536 * v3 + s.1)))] [] rfl (fun _ => rfl) rfl (D_sp_gatherAction w s.2 c N D gm v2 ((s.2.2 83) (65536 * v3 + s.1)) q2 (kE_i (KCn_a gm 83) rfl _)) (fun y9 n11 => ?_)
    refine P_inc 181 [(4, .int (i32 (cut (s.1 + 1)))), (0, .ref 59), (1, .ref 12), (2, .int (i32 v2)), (3, .ref (tbr v3))] rfl rfl (by decide) rfl rfl ?_
    refine P_goto 156 rfl (fun _ => rfl) ?_
    refine P_some ?_
    refine P_lv (b := [(0, .ref 59), (1, .ref 12), (2, .int (i32 v2)), (3, .ref (tbr v3)), (4, .int (i32 (cut (s.1 + 1))))]) rfl rfl ⟨rfl, rfl, rfl, rfl, rfl, trivial⟩ ?_
    exact H1 (cut (s.1 + 1), y9.2) (jk []) ⟨cut_r, n11⟩
def kfl_sp_gather_153 (v2 : Int) (v3 : Int) (m : mR) : Option (Int × mR) :=
  bnd (whl (kfb_sp_gather_156 v2 v3) (0, m)) (fun e12 : mR =>
    kfl_sp_gather_184 v2 v3 e12)
theorem dg_sp_gather_153 (w : wX) (c : Nat → Option am_C) (N D : Nat) (bb : Nat) (v2 : Int) (v3 : Int) (q2 : R32 v2) (q3 : Rt v3) (m : mR) (hm : KCn m) (j : Nat → Int) : PP bb w D pm_151 (153, [(0, .ref 59), (1, .ref 12), (2, .int (i32 v2)), (3, .ref (tbr v3)), (4, .int (i32 (j 4)))], [], (khp m c, N), 0, 0) (QS (FK0 c N) (kfl_sp_gather_153 v2 v3 m)) := by
  unfold kfl_sp_gather_153
  show PP bb w D pm_151 (153, [(0, .ref 59), (1, .ref 12), (2, .int (i32 v2)), (3, .ref (tbr v3)), (4, .int (i32 (j 4)))], [], (khp (mO m [] []) c, N), 0, 0) _
  refine P_ld 154 (.int (i32 0)) rfl (fun _ => rfl) ?_
  refine P_sto 156 [(4, .int (i32 0)), (0, .ref 59), (1, .ref 12), (2, .int (i32 v2)), (3, .ref (tbr v3))] rfl (fun _ => rfl) ?_
  refine P_lv (b := [(0, .ref 59), (1, .ref 12), (2, .int (i32 v2)), (3, .ref (tbr v3)), (4, .int (i32 0))]) rfl rfl ⟨rfl, rfl, rfl, rfl, rfl, trivial⟩ ?_
  refine P_bnd ?_
  refine P_whl (fun bb Q2 H1 H2 s9 j9 hs9 => dh_sp_gather_156 w c N D v2 v3 q2 q3 bb Q2 H1 H2 s9 j9 hs9) bb (fun e12 j q13 => ?_) (0, m) (jk []) ⟨(l32 0 rfl), hm⟩
  have q14 := q13
  show PP bb w D pm_151 (184, [(0, .ref 59), (1, .ref 12), (2, .int (i32 v2)), (3, .ref (tbr v3)), (4, .int (i32 (j 4)))], [], (khp (mO e12 [] []) c, N), 0, 0) (QS _ (kfl_sp_gather_184 v2 v3 e12))
  exact dg_sp_gather_184 w c N D bb v2 v3 q2 q3 e12 q14 (jk [(4, j 4)])
def kfb_sp_gather_115 (v2 : Int) (v3 : Int) (s : Int × mR) : Option (Sum (Int × mR) (mR)) :=
  if (s.2.2 72) v3 ≤ s.1 then
    some (.inr s.2)
  else
    bnd (kf_sp_gatherExpr v2 ((s.2.2 79) (65536 * v3 + s.1)) ((s.2.2 80) (65536 * v3 + s.1)) s.2) fun y17 =>
    some (.inl (cut (s.1 + 1), y17.2))
theorem dh_sp_gather_115 (w : wX) (c : Nat → Option am_C) (N D : Nat) (v2 : Int) (v3 : Int) (q2 : R32 v2) (q3 : Rt v3) (bb : Nat) (Q2 : Sum (Int × mR) (mR) → ag_Re af_T → Prop) (H1 : ∀ s j, cs_sp_gather_115 s → PP bb w D pm_151 (hd_sp_gather_115 c N v2 v3 s j) (Q2 (.inl s))) (H2 : ∀ x j, cx_sp_gather_115 x → PP bb w D pm_151 (ex_sp_gather_115 c N v2 v3 x j) (Q2 (.inr x))) (s : Int × mR) (j : Nat → Int) (hs : cs_sp_gather_115 s) : PP (bb + 1) w D pm_151 (hd_sp_gather_115 c N v2 v3 s j) (QS Q2 (kfb_sp_gather_115 v2 v3 s)) := by
  obtain ⟨g4, gm⟩ := hs
  unfold kfb_sp_gather_115
  show PP (bb + 1) w D pm_151 (115, [(0, .ref 59), (1, .ref 12), (2, .int (i32 v2)), (3, .ref (tbr v3)), (4, .int (i32 s.1))], [], (khp (mO s.2 [] []) c, N), 0, 0) _
  refine P1_ld 117 (.int (i32 s.1)) rfl (fun _ => rfl) ?_
  refine P_ld 118 (.ref (tbr v3)) rfl (fun _ => rfl) ?_
  refine PK_gfi 121 72 (s.2.2 72) rfl rfl q3.1 q3.2 rfl rfl ?_
  refine P_icF 153 124 rfl rfl rfl g4 (kE_i (KCn_a gm 72) rfl _) rfl (fun h16 => ?_) (fun h16 => ?_)
  · skip
    refine P_some ?_
    exact H2 s.2 (jk [(4, s.1)]) gm
  · skip
    refine P_ld 125 (.ref 59) rfl (fun _ => rfl) ?_
    refine P_ld 126 (.ref 12) rfl (fun _ => rfl) ?_
    refine PK_gf 129 (.ref 22) rfl rfl kd_12 rfl rfl rfl ?_
    refine P_ld 130 (.int (i32 v2)) rfl (fun _ => rfl) ?_
    refine P_ld 131 (.ref (tbr v3)) rfl (fun _ => rfl) ?_
    refine PK_gfr 134 rfl rfl q3.1 q3.2 rfl ?_
    refine P_ld 136 (.int (i32 s.1)) rfl (fun _ => rfl) ?_
    refine PK_ialt2 137 0 (s.2.2 79) rfl rfl rfl q3 g4 rfl ?_
    refine P_ld 138 (.ref (tbr v3)) rfl (fun _ => rfl) ?_
    refine PK_gfr 141 rfl rfl q3.1 q3.2 rfl ?_
    refine P_ld 143 (.int (i32 s.1)) rfl (fun _ => rfl) ?_
    refine PK_ialt2 144 1 (s.2.2 80) rfl rfl rfl q3 g4 rfl ?_
    refine P_ck0 147 152 [.ref 59, .ref 22, .int (i32 v2), .int (i32 ((s.2.2 79) (65536 * v3 + s.1))), .int (i32 ((s.2.2 80) (65536 * v3 + s.1)))] [] rfl (fun _ => rfl) rfl (D_sp_gatherExpr w s.2 c N D gm v2 ((s.2.2 79) (65536 * v3 + s.1)) ((s.2.2 80) (65536 * v3 + s.1)) q2 (kE_i (KCn_a gm 79) rfl _) (kE_i (KCn_a gm 80) rfl _)) (fun y17 n19 => ?_)
    refine P_inc 150 [(4, .int (i32 (cut (s.1 + 1)))), (0, .ref 59), (1, .ref 12), (2, .int (i32 v2)), (3, .ref (tbr v3))] rfl rfl (by decide) rfl rfl ?_
    refine P_goto 115 rfl (fun _ => rfl) ?_
    refine P_some ?_
    refine P_lv (b := [(0, .ref 59), (1, .ref 12), (2, .int (i32 v2)), (3, .ref (tbr v3)), (4, .int (i32 (cut (s.1 + 1))))]) rfl rfl ⟨rfl, rfl, rfl, rfl, rfl, trivial⟩ ?_
    exact H1 (cut (s.1 + 1), y17.2) (jk []) ⟨cut_r, n19⟩
def kfl_sp_gather_35 (v2 : Int) (m : mR) : Option (Int × mR) :=
  if (m.2 52) v2 = 1 then
    bnd (kf_sp_gatherExpr v2 ((m.2 57) v2) ((m.2 58) v2) (mO m [] [(62, upI (m.2 62) v2 0)])) fun y29 =>
    some (0, y29.2)
  else
    if (m.2 52) v2 = 0 then
      bnd (kf_sp_gatherDeed v2 ((m.2 56) v2) (mO m [] [(62, upI (m.2 62) v2 0)])) fun y26 =>
      some (0, y26.2)
    else
      bnd (whl (kfb_sp_gather_115 v2 ((m.2 55) v2)) (0, (mO m [] [(62, upI (m.2 62) v2 0)]))) (fun e23 : mR =>
        kfl_sp_gather_153 v2 ((m.2 55) v2) e23)
theorem dg_sp_gather_35 (w : wX) (c : Nat → Option am_C) (N D : Nat) (bb : Nat) (v2 : Int) (q2 : R32 v2) (m : mR) (hm : KCn m) (j : Nat → Int) : PP bb w D pm_151 (35, [(0, .ref 59), (1, .ref 12), (2, .int (i32 v2)), (3, .int (i32 (j 3)))], [], (khp m c, N), 0, 0) (QS (FK0 c N) (kfl_sp_gather_35 v2 m)) := by
  unfold kfl_sp_gather_35
  show PP bb w D pm_151 (35, [(0, .ref 59), (1, .ref 12), (2, .int (i32 v2)), (3, .int (i32 (j 3)))], [], (khp (mO m [] []) c, N), 0, 0) _
  refine P_ld 36 (.ref 59) rfl (fun _ => rfl) ?_
  refine PK_gf 39 (.ref 70) rfl rfl kd_59 rfl rfl rfl ?_
  refine P_ld 40 (.int (i32 v2)) rfl (fun _ => rfl) ?_
  refine P_ld 41 (.int (i32 0)) rfl (fun _ => rfl) ?_
  refine PK_iast2 (a' := [(62, upI (m.2 62) v2 0)]) 42 62 (m.2 62) rfl rfl rfl q2 rfl rfl ?_
  refine P_ld 43 (.ref 59) rfl (fun _ => rfl) ?_
  refine PK_gf 46 (.ref 60) rfl rfl kd_59 rfl rfl rfl ?_
  refine P_ld 47 (.int (i32 v2)) rfl (fun _ => rfl) ?_
  refine PK_iald2 48 52 (m.2 52) rfl rfl rfl q2 rfl ?_
  refine P_ld 49 (.int (i32 1)) rfl (fun _ => rfl) ?_
  refine P_icE 76 52 rfl rfl rfl (kE_i (KCn_a hm 52) rfl _) (l32 1 rfl) rfl (fun h20 => ?_) (fun h20 => ?_)
  · skip
    refine P_ld 53 (.ref 59) rfl (fun _ => rfl) ?_
    refine P_ld 54 (.ref 12) rfl (fun _ => rfl) ?_
    refine PK_gf 57 (.ref 22) rfl rfl kd_12 rfl rfl rfl ?_
    refine P_ld 58 (.int (i32 v2)) rfl (fun _ => rfl) ?_
    refine P_ld 59 (.ref 59) rfl (fun _ => rfl) ?_
    refine PK_gf 62 (.ref 65) rfl rfl kd_59 rfl rfl rfl ?_
    refine P_ld 63 (.int (i32 v2)) rfl (fun _ => rfl) ?_
    refine PK_iald2 64 57 (m.2 57) rfl rfl rfl q2 rfl ?_
    refine P_ld 65 (.ref 59) rfl (fun _ => rfl) ?_
    refine PK_gf 68 (.ref 66) rfl rfl kd_59 rfl rfl rfl ?_
    refine P_ld 69 (.int (i32 v2)) rfl (fun _ => rfl) ?_
    refine PK_iald2 70 58 (m.2 58) rfl rfl rfl q2 rfl ?_
    refine P_ck0 73 152 [.ref 59, .ref 22, .int (i32 v2), .int (i32 ((m.2 57) v2)), .int (i32 ((m.2 58) v2))] [] rfl (fun _ => rfl) rfl (D_sp_gatherExpr w (mO m [] [(62, upI (m.2 62) v2 0)]) c N D (KCn_mO hm rfl rfl trivial ⟨(kE_ui (KCn_a hm 62) rfl (l32 0 rfl)), trivial⟩) v2 ((m.2 57) v2) ((m.2 58) v2) q2 (kE_i (KCn_a hm 57) rfl _) (kE_i (KCn_a hm 58) rfl _)) (fun y29 n31 => ?_)
    refine P_goto 194 rfl (fun _ => rfl) ?_
    exact P_rk0 rfl rfl n31
  · skip
    refine P_ld 77 (.ref 59) rfl (fun _ => rfl) ?_
    refine PK_gf 80 (.ref 60) rfl rfl kd_59 rfl rfl rfl ?_
    refine P_ld 81 (.int (i32 v2)) rfl (fun _ => rfl) ?_
    refine PK_iald2 82 52 (m.2 52) rfl rfl rfl q2 rfl ?_
    refine P_ifE 100 85 rfl rfl rfl (kE_i (KCn_a hm 52) rfl _) rfl (fun h21 => ?_) (fun h21 => ?_)
    · skip
      refine P_ld 86 (.ref 59) rfl (fun _ => rfl) ?_
      refine P_ld 87 (.ref 12) rfl (fun _ => rfl) ?_
      refine P_ld 88 (.int (i32 v2)) rfl (fun _ => rfl) ?_
      refine P_ld 89 (.ref 59) rfl (fun _ => rfl) ?_
      refine PK_gf 92 (.ref 64) rfl rfl kd_59 rfl rfl rfl ?_
      refine P_ld 93 (.int (i32 v2)) rfl (fun _ => rfl) ?_
      refine PK_iald2 94 56 (m.2 56) rfl rfl rfl q2 rfl ?_
      refine P_ck0 97 154 [.ref 59, .ref 12, .int (i32 v2), .int (i32 ((m.2 56) v2))] [] rfl (fun _ => rfl) rfl (D_sp_gatherDeed w (mO m [] [(62, upI (m.2 62) v2 0)]) c N D (KCn_mO hm rfl rfl trivial ⟨(kE_ui (KCn_a hm 62) rfl (l32 0 rfl)), trivial⟩) v2 ((m.2 56) v2) q2 (kE_i (KCn_a hm 56) rfl _)) (fun y26 n28 => ?_)
      refine P_goto 194 rfl (fun _ => rfl) ?_
      exact P_rk0 rfl rfl n28
    · skip
      refine P_ld 101 (.ref 12) rfl (fun _ => rfl) ?_
      refine PK_gf 104 (.ref 21) rfl rfl kd_12 rfl rfl rfl ?_
      refine P_ld 105 (.ref 59) rfl (fun _ => rfl) ?_
      refine PK_gf 108 (.ref 63) rfl rfl kd_59 rfl rfl rfl ?_
      refine P_ld 109 (.int (i32 v2)) rfl (fun _ => rfl) ?_
      refine PK_iald2 110 55 (m.2 55) rfl rfl rfl q2 rfl ?_
      refine PK_aatb2 111 rfl (kE_i (KCn_a hm 55) rfl _) rfl (fun t22 => ?_)
      refine P_sto 112 [(3, .ref (tbr ((m.2 55) v2))), (0, .ref 59), (1, .ref 12), (2, .int (i32 v2))] rfl (fun _ => rfl) ?_
      refine P_ld 113 (.int (i32 0)) rfl (fun _ => rfl) ?_
      refine P_sto 115 [(4, .int (i32 0)), (3, .ref (tbr ((m.2 55) v2))), (0, .ref 59), (1, .ref 12), (2, .int (i32 v2))] rfl (fun _ => rfl) ?_
      refine P_lv (b := [(0, .ref 59), (1, .ref 12), (2, .int (i32 v2)), (3, .ref (tbr ((m.2 55) v2))), (4, .int (i32 0))]) rfl rfl ⟨rfl, rfl, rfl, rfl, rfl, trivial⟩ ?_
      refine P_bnd ?_
      refine P_whl (fun bb Q2 H1 H2 s9 j9 hs9 => dh_sp_gather_115 w c N D v2 ((m.2 55) v2) q2 t22 bb Q2 H1 H2 s9 j9 hs9) bb (fun e23 j q24 => ?_) (0, (mO m [] [(62, upI (m.2 62) v2 0)])) (jk []) ⟨(l32 0 rfl), (KCn_mO hm rfl rfl trivial ⟨(kE_ui (KCn_a hm 62) rfl (l32 0 rfl)), trivial⟩)⟩
      have q25 := q24
      show PP bb w D pm_151 (153, [(0, .ref 59), (1, .ref 12), (2, .int (i32 v2)), (3, .ref (tbr ((m.2 55) v2))), (4, .int (i32 (j 4)))], [], (khp (mO e23 [] []) c, N), 0, 0) (QS _ (kfl_sp_gather_153 v2 ((m.2 55) v2) e23))
      exact dg_sp_gather_153 w c N D bb v2 ((m.2 55) v2) q2 t22 e23 q25 (jk [(4, j 4)])
def kfb_sp_gather_2 (v2 : Int) (s : Int × mR) : Option (Sum (Int × mR) (mR)) :=
  if (4 : Int) ≤ s.1 then
    some (.inr s.2)
  else
    some (.inl (cut (s.1 + 1), (mO s.2 [] [(60, upI (s.2.2 60) (cut ((cut (v2 * 4)) + s.1)) 0), (61, upI (s.2.2 61) (cut ((cut (v2 * 4)) + s.1)) 0)])))
theorem dh_sp_gather_2 (w : wX) (c : Nat → Option am_C) (N D : Nat) (v2 : Int) (q2 : R32 v2) (bb : Nat) (Q2 : Sum (Int × mR) (mR) → ag_Re af_T → Prop) (H1 : ∀ s j, cs_sp_gather_2 s → PP bb w D pm_151 (hd_sp_gather_2 c N v2 s j) (Q2 (.inl s))) (H2 : ∀ x j, cx_sp_gather_2 x → PP bb w D pm_151 (ex_sp_gather_2 c N v2 x j) (Q2 (.inr x))) (s : Int × mR) (j : Nat → Int) (hs : cs_sp_gather_2 s) : PP (bb + 1) w D pm_151 (hd_sp_gather_2 c N v2 s j) (QS Q2 (kfb_sp_gather_2 v2 s)) := by
  obtain ⟨g3, gm⟩ := hs
  unfold kfb_sp_gather_2
  show PP (bb + 1) w D pm_151 (2, [(0, .ref 59), (1, .ref 12), (2, .int (i32 v2)), (3, .int (i32 s.1))], [], (khp (mO s.2 [] []) c, N), 0, 0) _
  refine P1_ld 3 (.int (i32 s.1)) rfl (fun _ => rfl) ?_
  refine P_ld 4 (.int (i32 4)) rfl (fun _ => rfl) ?_
  refine P_icF 35 7 rfl rfl rfl g3 (l32 4 rfl) rfl (fun h33 => ?_) (fun h33 => ?_)
  · skip
    refine P_some ?_
    exact H2 s.2 (jk [(3, s.1)]) gm
  · skip
    refine P_ld 8 (.ref 59) rfl (fun _ => rfl) ?_
    refine PK_gf 11 (.ref 68) rfl rfl kd_59 rfl rfl rfl ?_
    refine P_ld 12 (.int (i32 v2)) rfl (fun _ => rfl) ?_
    refine P_ld 13 (.int (i32 4)) rfl (fun _ => rfl) ?_
    refine P_op 14 (cut (v2 * 4)) _ rfl (fun _ => rfl) o_mul ?_
    refine P_ld 15 (.int (i32 s.1)) rfl (fun _ => rfl) ?_
    refine P_op 16 (cut ((cut (v2 * 4)) + s.1)) _ rfl (fun _ => rfl) o_add ?_
    refine P_ld 17 (.long (i64 0)) rfl (fun _ => rfl) ?_
    refine PK_last2 (a' := [(60, upI (s.2.2 60) (cut ((cut (v2 * 4)) + s.1)) 0)]) 18 60 (s.2.2 60) rfl rfl rfl cut_r rfl rfl ?_
    refine P_ld 19 (.ref 59) rfl (fun _ => rfl) ?_
    refine PK_gf 22 (.ref 69) rfl rfl kd_59 rfl rfl rfl ?_
    refine P_ld 23 (.int (i32 v2)) rfl (fun _ => rfl) ?_
    refine P_ld 24 (.int (i32 4)) rfl (fun _ => rfl) ?_
    refine P_op 25 (cut (v2 * 4)) _ rfl (fun _ => rfl) o_mul ?_
    refine P_ld 26 (.int (i32 s.1)) rfl (fun _ => rfl) ?_
    refine P_op 27 (cut ((cut (v2 * 4)) + s.1)) _ rfl (fun _ => rfl) o_add ?_
    refine P_ld 28 (.long (i64 0)) rfl (fun _ => rfl) ?_
    refine PK_last2 (a' := [(60, upI (s.2.2 60) (cut ((cut (v2 * 4)) + s.1)) 0), (61, upI (s.2.2 61) (cut ((cut (v2 * 4)) + s.1)) 0)]) 29 61 (s.2.2 61) rfl rfl rfl cut_r rfl rfl ?_
    refine P_inc 32 [(3, .int (i32 (cut (s.1 + 1)))), (0, .ref 59), (1, .ref 12), (2, .int (i32 v2))] rfl rfl (by decide) rfl rfl ?_
    refine P_goto 2 rfl (fun _ => rfl) ?_
    refine P_some ?_
    refine P_lv (b := [(0, .ref 59), (1, .ref 12), (2, .int (i32 v2)), (3, .int (i32 (cut (s.1 + 1))))]) rfl rfl ⟨rfl, rfl, rfl, rfl, trivial⟩ ?_
    exact H1 (cut (s.1 + 1), (mO s.2 [] [(60, upI (s.2.2 60) (cut ((cut (v2 * 4)) + s.1)) 0), (61, upI (s.2.2 61) (cut ((cut (v2 * 4)) + s.1)) 0)])) (jk []) ⟨cut_r, (KCn_mO gm rfl rfl trivial ⟨(kE_ul (KCn_a gm 60) rfl (l64 0 rfl)), (kE_ul (KCn_a gm 61) rfl (l64 0 rfl)), trivial⟩)⟩
def kf_sp_gather (v2 : Int) (m : mR) : Option (Int × mR) :=
  bnd (whl (kfb_sp_gather_2 v2) (0, m)) (fun e34 : mR =>
    kfl_sp_gather_35 v2 e34)
theorem D_sp_gather (w : wX) (m : mR) (c : Nat → Option am_C) (N D : Nat) (hm : KCn m) (v2 : Int) (q2 : R32 v2) : PC w D 151 [.ref 59, .ref 12, .int (i32 v2)] (khp m c, N) (QS (FK0 c N) (kf_sp_gather v2 m)) := by
  refine Pc_of (fun D bb => ?_) D
  unfold kf_sp_gather
  show PP bb w D pm_151 (0, [(0, .ref 59), (1, .ref 12), (2, .int (i32 v2))], [], (khp (mO m [] []) c, N), 0, 0) _
  refine P_ld 1 (.int (i32 0)) rfl (fun _ => rfl) ?_
  refine P_sto 2 [(3, .int (i32 0)), (0, .ref 59), (1, .ref 12), (2, .int (i32 v2))] rfl (fun _ => rfl) ?_
  refine P_lv (b := [(0, .ref 59), (1, .ref 12), (2, .int (i32 v2)), (3, .int (i32 0))]) rfl rfl ⟨rfl, rfl, rfl, rfl, trivial⟩ ?_
  refine P_bnd ?_
  refine P_whl (fun bb Q2 H1 H2 s9 j9 hs9 => dh_sp_gather_2 w c N D v2 q2 bb Q2 H1 H2 s9 j9 hs9) bb (fun e34 j q35 => ?_) (0, m) (jk []) ⟨(l32 0 rfl), hm⟩
  have q36 := q35
  show PP bb w D pm_151 (35, [(0, .ref 59), (1, .ref 12), (2, .int (i32 v2)), (3, .int (i32 (j 3)))], [], (khp (mO e34 [] []) c, N), 0, 0) (QS _ (kfl_sp_gather_35 v2 e34))
  exact dg_sp_gather_35 w c N D bb v2 q2 e34 q36 (jk [(3, j 3)])
def cs_tb_wires_4 (s : Int × Int) : Prop := R32 s.1 ∧ R32 s.2
def cx_tb_wires_4 : (Int) → Prop := (fun (e : Int) => R32 e)
def hd_tb_wires_4 (c : Nat → Option am_C) (N : Nat) (v0 : Int) (m : mR) (s : Int × Int) (j : Nat → Int) : ag_St af_T := (4, [(0, .ref (tbr v0)), (1, .int (i32 s.1)), (2, .int (i32 s.2))], [], (khp m c, N), 0, 0)
def ex_tb_wires_4 (c : Nat → Option am_C) (N : Nat) (v0 : Int) (m : mR) : (Int) → (Nat → Int) → ag_St af_T := (fun (e : Int) (j : Nat → Int) => ((27, [(0, .ref (tbr (j 0))), (1, .int (i32 e)), (2, .int (i32 (j 2)))], [], (khp m c, N), 0, 0) : ag_St af_T))
def kfb_tb_wires_4 (v0 : Int) (m : mR) (s : Int × Int) : Option (Sum (Int × Int) (Int)) :=
  if (m.2 72) v0 ≤ s.2 then
    some (.inr s.1)
  else
    some (.inl (cut (s.1 + ((m.2 82) (65536 * v0 + s.2))), cut (s.2 + 1)))
theorem dh_tb_wires_4 (w : wX) (c : Nat → Option am_C) (N D : Nat) (v0 : Int) (q0 : Rt v0) (m : mR) (hm : KCn m) (bb : Nat) (Q2 : Sum (Int × Int) (Int) → ag_Re af_T → Prop) (H1 : ∀ s j, cs_tb_wires_4 s → PP bb w D pm_158 (hd_tb_wires_4 c N v0 m s j) (Q2 (.inl s))) (H2 : ∀ x j, cx_tb_wires_4 x → PP bb w D pm_158 (ex_tb_wires_4 c N v0 m x j) (Q2 (.inr x))) (s : Int × Int) (j : Nat → Int) (hs : cs_tb_wires_4 s) : PP (bb + 1) w D pm_158 (hd_tb_wires_4 c N v0 m s j) (QS Q2 (kfb_tb_wires_4 v0 m s)) := by
  obtain ⟨g1, g2⟩ := hs
  unfold kfb_tb_wires_4
  show PP (bb + 1) w D pm_158 (4, [(0, .ref (tbr v0)), (1, .int (i32 s.1)), (2, .int (i32 s.2))], [], (khp (mO m [] []) c, N), 0, 0) _
  refine P1_ld 5 (.int (i32 s.2)) rfl (fun _ => rfl) ?_
  refine P_ld 6 (.ref (tbr v0)) rfl (fun _ => rfl) ?_
  refine PK_gfi 9 72 (m.2 72) rfl rfl q0.1 q0.2 rfl rfl ?_
  refine P_icF 27 12 rfl rfl rfl g2 (kE_i (KCn_a hm 72) rfl _) rfl (fun h3 => ?_) (fun h3 => ?_)
  · skip
    refine P_some ?_
    exact H2 s.1 (jk [(0, v0), (2, s.2)]) g1
  · skip
    refine P_ld 13 (.int (i32 s.1)) rfl (fun _ => rfl) ?_
    refine P_ld 14 (.ref (tbr v0)) rfl (fun _ => rfl) ?_
    refine PK_gfr 17 rfl rfl q0.1 q0.2 rfl ?_
    refine P_ld 18 (.int (i32 s.2)) rfl (fun _ => rfl) ?_
    refine PK_ialt2 19 3 (m.2 82) rfl rfl rfl q0 g2 rfl ?_
    refine P_op 20 (cut (s.1 + ((m.2 82) (65536 * v0 + s.2)))) _ rfl (fun _ => rfl) o_add ?_
    refine P_sto 21 [(1, .int (i32 (cut (s.1 + ((m.2 82) (65536 * v0 + s.2)))))), (0, .ref (tbr v0)), (2, .int (i32 s.2))] rfl (fun _ => rfl) ?_
    refine P_inc 24 [(2, .int (i32 (cut (s.2 + 1)))), (1, .int (i32 (cut (s.1 + ((m.2 82) (65536 * v0 + s.2)))))), (0, .ref (tbr v0))] rfl rfl (by decide) rfl rfl ?_
    refine P_goto 4 rfl (fun _ => rfl) ?_
    refine P_some ?_
    refine P_lv (b := [(0, .ref (tbr v0)), (1, .int (i32 (cut (s.1 + ((m.2 82) (65536 * v0 + s.2)))))), (2, .int (i32 (cut (s.2 + 1))))]) rfl rfl ⟨rfl, rfl, rfl, trivial⟩ ?_
    exact H1 (cut (s.1 + ((m.2 82) (65536 * v0 + s.2))), cut (s.2 + 1)) (jk []) ⟨cut_r, cut_r⟩
def kf_tb_wires (v0 : Int) (m : mR) : Option Int :=
  bnd (whl (kfb_tb_wires_4 v0 m) (0, 0)) (fun e4 : Int =>
    some e4)
theorem D_tb_wires (w : wX) (m : mR) (c : Nat → Option am_C) (N D : Nat) (hm : KCn m) (v0 : Int) (q0 : Rt v0) : PC w D 158 [.ref (tbr v0)] (khp m c, N) (QS (FP1 (khp m c, N)) (kf_tb_wires v0 m)) := by
  refine Pc_of (fun D bb => ?_) D
  unfold kf_tb_wires
  show PP bb w D pm_158 (0, [(0, .ref (tbr v0))], [], (khp (mO m [] []) c, N), 0, 0) _
  refine P_ld 1 (.int (i32 0)) rfl (fun _ => rfl) ?_
  refine P_sto 2 [(1, .int (i32 0)), (0, .ref (tbr v0))] rfl (fun _ => rfl) ?_
  refine P_ld 3 (.int (i32 0)) rfl (fun _ => rfl) ?_
  refine P_sto 4 [(2, .int (i32 0)), (1, .int (i32 0)), (0, .ref (tbr v0))] rfl (fun _ => rfl) ?_
  refine P_lv (b := [(0, .ref (tbr v0)), (1, .int (i32 0)), (2, .int (i32 0))]) rfl rfl ⟨rfl, rfl, rfl, trivial⟩ ?_
  refine P_bnd ?_
  refine P_whl (fun bb Q2 H1 H2 s9 j9 hs9 => dh_tb_wires_4 w c N D v0 q0 m hm bb Q2 H1 H2 s9 j9 hs9) bb (fun e4 j q5 => ?_) (0, 0) (jk []) ⟨(l32 0 rfl), (l32 0 rfl)⟩
  have q6 := q5
  show PP bb w D pm_158 (27, [(0, .ref (tbr (j 0))), (1, .int (i32 e4)), (2, .int (i32 (j 2)))], [], (khp (mO m [] []) c, N), 0, 0) (QS _ (some e4))
  refine P_ld 28 (.int (i32 e4)) rfl (fun _ => rfl) ?_
  exact P_rp1 rfl q6
def cs_ac_parameterBits_4 (s : Int × Int) : Prop := R32 s.1 ∧ R32 s.2
def cx_ac_parameterBits_4 : (Int) → Prop := (fun (e : Int) => R32 e)
def hd_ac_parameterBits_4 (c : Nat → Option am_C) (N : Nat) (v1 : Int) (m : mR) (s : Int × Int) (j : Nat → Int) : ag_St af_T := (4, [(0, .ref 45), (1, .int (i32 v1)), (2, .int (i32 s.1)), (3, .int (i32 s.2))], [], (khp m c, N), 0, 0)
def ex_ac_parameterBits_4 (c : Nat → Option am_C) (N : Nat) (v1 : Int) (m : mR) : (Int) → (Nat → Int) → ag_St af_T := (fun (e : Int) (j : Nat → Int) => ((33, [(0, .ref 45), (1, .int (i32 (j 1))), (2, .int (i32 e)), (3, .int (i32 (j 3)))], [], (khp m c, N), 0, 0) : ag_St af_T))
def kfb_ac_parameterBits_4 (v1 : Int) (m : mR) (s : Int × Int) : Option (Sum (Int × Int) (Int)) :=
  if (m.2 39) v1 ≤ s.2 then
    some (.inr s.1)
  else
    some (.inl (cut (s.1 + ((m.2 40) (cut ((cut (v1 * 4)) + s.2)))), cut (s.2 + 1)))
theorem dh_ac_parameterBits_4 (w : wX) (c : Nat → Option am_C) (N D : Nat) (v1 : Int) (q1 : R32 v1) (m : mR) (hm : KCn m) (bb : Nat) (Q2 : Sum (Int × Int) (Int) → ag_Re af_T → Prop) (H1 : ∀ s j, cs_ac_parameterBits_4 s → PP bb w D pm_157 (hd_ac_parameterBits_4 c N v1 m s j) (Q2 (.inl s))) (H2 : ∀ x j, cx_ac_parameterBits_4 x → PP bb w D pm_157 (ex_ac_parameterBits_4 c N v1 m x j) (Q2 (.inr x))) (s : Int × Int) (j : Nat → Int) (hs : cs_ac_parameterBits_4 s) : PP (bb + 1) w D pm_157 (hd_ac_parameterBits_4 c N v1 m s j) (QS Q2 (kfb_ac_parameterBits_4 v1 m s)) := by
  obtain ⟨g2, g3⟩ := hs
  unfold kfb_ac_parameterBits_4
  show PP (bb + 1) w D pm_157 (4, [(0, .ref 45), (1, .int (i32 v1)), (2, .int (i32 s.1)), (3, .int (i32 s.2))], [], (khp (mO m [] []) c, N), 0, 0) _
  refine P1_ld 5 (.int (i32 s.2)) rfl (fun _ => rfl) ?_
  refine P_ld 6 (.ref 45) rfl (fun _ => rfl) ?_
  refine PK_gf 9 (.ref 46) rfl rfl kd_45 rfl rfl rfl ?_
  refine P_ld 10 (.int (i32 v1)) rfl (fun _ => rfl) ?_
  refine PK_iald2 11 39 (m.2 39) rfl rfl rfl q1 rfl ?_
  refine P_icF 33 14 rfl rfl rfl g3 (kE_i (KCn_a hm 39) rfl _) rfl (fun h3 => ?_) (fun h3 => ?_)
  · skip
    refine P_some ?_
    exact H2 s.1 (jk [(1, v1), (3, s.2)]) g2
  · skip
    refine P_ld 15 (.int (i32 s.1)) rfl (fun _ => rfl) ?_
    refine P_ld 16 (.ref 45) rfl (fun _ => rfl) ?_
    refine PK_gf 19 (.ref 47) rfl rfl kd_45 rfl rfl rfl ?_
    refine P_ld 20 (.int (i32 v1)) rfl (fun _ => rfl) ?_
    refine P_ld 21 (.int (i32 4)) rfl (fun _ => rfl) ?_
    refine P_op 22 (cut (v1 * 4)) _ rfl (fun _ => rfl) o_mul ?_
    refine P_ld 23 (.int (i32 s.2)) rfl (fun _ => rfl) ?_
    refine P_op 24 (cut ((cut (v1 * 4)) + s.2)) _ rfl (fun _ => rfl) o_add ?_
    refine PK_iald2 25 40 (m.2 40) rfl rfl rfl cut_r rfl ?_
    refine P_op 26 (cut (s.1 + ((m.2 40) (cut ((cut (v1 * 4)) + s.2))))) _ rfl (fun _ => rfl) o_add ?_
    refine P_sto 27 [(2, .int (i32 (cut (s.1 + ((m.2 40) (cut ((cut (v1 * 4)) + s.2))))))), (0, .ref 45), (1, .int (i32 v1)), (3, .int (i32 s.2))] rfl (fun _ => rfl) ?_
    refine P_inc 30 [(3, .int (i32 (cut (s.2 + 1)))), (2, .int (i32 (cut (s.1 + ((m.2 40) (cut ((cut (v1 * 4)) + s.2))))))), (0, .ref 45), (1, .int (i32 v1))] rfl rfl (by decide) rfl rfl ?_
    refine P_goto 4 rfl (fun _ => rfl) ?_
    refine P_some ?_
    refine P_lv (b := [(0, .ref 45), (1, .int (i32 v1)), (2, .int (i32 (cut (s.1 + ((m.2 40) (cut ((cut (v1 * 4)) + s.2))))))), (3, .int (i32 (cut (s.2 + 1))))]) rfl rfl ⟨rfl, rfl, rfl, rfl, trivial⟩ ?_
    exact H1 (cut (s.1 + ((m.2 40) (cut ((cut (v1 * 4)) + s.2)))), cut (s.2 + 1)) (jk []) ⟨cut_r, cut_r⟩
def kf_ac_parameterBits (v1 : Int) (m : mR) : Option Int :=
  bnd (whl (kfb_ac_parameterBits_4 v1 m) (0, 0)) (fun e4 : Int =>
    some e4)
theorem D_ac_parameterBits (w : wX) (m : mR) (c : Nat → Option am_C) (N D : Nat) (hm : KCn m) (v1 : Int) (q1 : R32 v1) : PC w D 157 [.ref 45, .int (i32 v1)] (khp m c, N) (QS (FP1 (khp m c, N)) (kf_ac_parameterBits v1 m)) := by
  refine Pc_of (fun D bb => ?_) D
  unfold kf_ac_parameterBits
  show PP bb w D pm_157 (0, [(0, .ref 45), (1, .int (i32 v1))], [], (khp (mO m [] []) c, N), 0, 0) _
  refine P_ld 1 (.int (i32 0)) rfl (fun _ => rfl) ?_
  refine P_sto 2 [(2, .int (i32 0)), (0, .ref 45), (1, .int (i32 v1))] rfl (fun _ => rfl) ?_
  refine P_ld 3 (.int (i32 0)) rfl (fun _ => rfl) ?_
  refine P_sto 4 [(3, .int (i32 0)), (2, .int (i32 0)), (0, .ref 45), (1, .int (i32 v1))] rfl (fun _ => rfl) ?_
  refine P_lv (b := [(0, .ref 45), (1, .int (i32 v1)), (2, .int (i32 0)), (3, .int (i32 0))]) rfl rfl ⟨rfl, rfl, rfl, rfl, trivial⟩ ?_
  refine P_bnd ?_
  refine P_whl (fun bb Q2 H1 H2 s9 j9 hs9 => dh_ac_parameterBits_4 w c N D v1 q1 m hm bb Q2 H1 H2 s9 j9 hs9) bb (fun e4 j q5 => ?_) (0, 0) (jk []) ⟨(l32 0 rfl), (l32 0 rfl)⟩
  have q6 := q5
  show PP bb w D pm_157 (33, [(0, .ref 45), (1, .int (i32 (j 1))), (2, .int (i32 e4)), (3, .int (i32 (j 3)))], [], (khp (mO m [] []) c, N), 0, 0) (QS _ (some e4))
  refine P_ld 34 (.int (i32 e4)) rfl (fun _ => rfl) ?_
  exact P_rp1 rfl q6
def cs_tb_memory_4 (s : Int × Int) : Prop := R32 s.1 ∧ R32 s.2
def cx_tb_memory_4 : (Int) → Prop := (fun (e : Int) => R32 e)
def hd_tb_memory_4 (c : Nat → Option am_C) (N : Nat) (v0 : Int) (m : mR) (s : Int × Int) (j : Nat → Int) : ag_St af_T := (4, [(0, .ref (tbr v0)), (1, .ref 45), (2, .int (i32 s.1)), (3, .int (i32 s.2))], [], (khp m c, N), 0, 0)
def ex_tb_memory_4 (c : Nat → Option am_C) (N : Nat) (v0 : Int) (m : mR) : (Int) → (Nat → Int) → ag_St af_T := (fun (e : Int) (j : Nat → Int) => ((33, [(0, .ref (tbr v0)), (1, .ref 45), (2, .int (i32 e)), (3, .int (i32 (j 3)))], [], (khp m c, N), 0, 0) : ag_St af_T))
def kfl_tb_memory_82 (v2 : Int) (v4 : Int) (u0 : Int) (m : mR) : Option Int :=
  some (cut (v4 * (cut ((cut (u0 + v2)) + 8))))
theorem dg_tb_memory_82 (w : wX) (c : Nat → Option am_C) (N D : Nat) (bb : Nat) (v2 : Int) (v4 : Int) (u0 : Int) (q2 : R32 v2) (q4 : R32 v4) (r0 : R32 u0) (m : mR) (hm : KCn m) (j : Nat → Int) : PP bb w D pm_156 (82, [(0, .ref (tbr (j 0))), (1, .ref 45), (2, .int (i32 v2)), (3, .int (i32 (j 3))), (4, .int (i32 v4))], [.int (i32 u0)], (khp m c, N), 0, 0) (QS (FP1 (khp m c, N)) (kfl_tb_memory_82 v2 v4 u0 m)) := by
  unfold kfl_tb_memory_82
  show PP bb w D pm_156 (82, [(0, .ref (tbr (j 0))), (1, .ref 45), (2, .int (i32 v2)), (3, .int (i32 (j 3))), (4, .int (i32 v4))], [.int (i32 u0)], (khp (mO m [] []) c, N), 0, 0) _
  refine P_sto 84 [(5, .int (i32 u0)), (0, .ref (tbr (j 0))), (1, .ref 45), (2, .int (i32 v2)), (3, .int (i32 (j 3))), (4, .int (i32 v4))] rfl (fun _ => rfl) ?_
  refine P_ld 86 (.int (i32 v4)) rfl (fun _ => rfl) ?_
  refine P_ld 88 (.int (i32 u0)) rfl (fun _ => rfl) ?_
  refine P_ld 89 (.int (i32 v2)) rfl (fun _ => rfl) ?_
  refine P_op 90 (cut (u0 + v2)) _ rfl (fun _ => rfl) o_add ?_
  refine P_ld 92 (.int (i32 8)) rfl (fun _ => rfl) ?_
  refine P_op 93 (cut ((cut (u0 + v2)) + 8)) _ rfl (fun _ => rfl) o_add ?_
  refine P_op 94 (cut (v4 * (cut ((cut (u0 + v2)) + 8)))) _ rfl (fun _ => rfl) o_mul ?_
  exact P_rp1 rfl cut_r
def kfl_tb_memory_63 (v0 : Int) (v2 : Int) (v3 : Int) (u0 : Int) (m : mR) : Option Int :=
  if v3 = 0 then
    bnd (kf_tb_wires v0 m) fun y3 =>
    kfl_tb_memory_82 v2 u0 (cut (2 * y3)) m
  else
    bnd (kf_tb_wires v0 m) fun y6 =>
    kfl_tb_memory_82 v2 u0 y6 m
theorem dg_tb_memory_63 (w : wX) (c : Nat → Option am_C) (N D : Nat) (bb : Nat) (v0 : Int) (v2 : Int) (v3 : Int) (u0 : Int) (q0 : Rt v0) (q2 : R32 v2) (q3 : R32 v3) (r0 : R32 u0) (m : mR) (hm : KCn m) (j : Nat → Int) : PP bb w D pm_156 (63, [(0, .ref (tbr v0)), (1, .ref 45), (2, .int (i32 v2)), (3, .int (i32 v3))], [.int (i32 u0)], (khp m c, N), 0, 0) (QS (FP1 (khp m c, N)) (kfl_tb_memory_63 v0 v2 v3 u0 m)) := by
  unfold kfl_tb_memory_63
  show PP bb w D pm_156 (63, [(0, .ref (tbr v0)), (1, .ref 45), (2, .int (i32 v2)), (3, .int (i32 v3))], [.int (i32 u0)], (khp (mO m [] []) c, N), 0, 0) _
  refine P_sto 65 [(4, .int (i32 u0)), (0, .ref (tbr v0)), (1, .ref 45), (2, .int (i32 v2)), (3, .int (i32 v3))] rfl (fun _ => rfl) ?_
  refine P_ld 66 (.int (i32 v3)) rfl (fun _ => rfl) ?_
  refine P_ifF 76 69 rfl rfl rfl q3 rfl (fun h2 => ?_) (fun h2 => ?_)
  · skip
    refine P_ld 77 (.int (i32 2)) rfl (fun _ => rfl) ?_
    refine P_ld 78 (.ref (tbr v0)) rfl (fun _ => rfl) ?_
    refine P_cp1 81 158 [.ref (tbr v0)] [.int (i32 2)] rfl (inv_vt (args := []) (khp_t0 _ q0.1 q0.2) rfl rfl rfl) rfl (D_tb_wires w m c N D hm v0 q0) (fun y3 h4 => ?_)
    refine P_op 82 (cut (2 * y3)) _ rfl (fun _ => rfl) o_mul ?_
    refine P_lv (b := [(0, .ref (tbr v0)), (1, .ref 45), (2, .int (i32 v2)), (3, .int (i32 v3)), (4, .int (i32 u0))]) rfl rfl ⟨rfl, rfl, rfl, rfl, rfl, trivial⟩ ?_
    exact dg_tb_memory_82 w c N D bb v2 u0 (cut (2 * y3)) q2 r0 cut_r m hm (jk [(0, v0), (3, v3)])
  · skip
    refine P_ld 70 (.ref (tbr v0)) rfl (fun _ => rfl) ?_
    refine P_cp1 73 158 [.ref (tbr v0)] [] rfl (inv_vt (args := []) (khp_t0 _ q0.1 q0.2) rfl rfl rfl) rfl (D_tb_wires w m c N D hm v0 q0) (fun y6 h7 => ?_)
    refine P_goto 82 rfl (fun _ => rfl) ?_
    refine P_lv (b := [(0, .ref (tbr v0)), (1, .ref 45), (2, .int (i32 v2)), (3, .int (i32 v3)), (4, .int (i32 u0))]) rfl rfl ⟨rfl, rfl, rfl, rfl, rfl, trivial⟩ ?_
    exact dg_tb_memory_82 w c N D bb v2 u0 y6 q2 r0 h7 m hm (jk [(0, v0), (3, v3)])
def kfl_tb_memory_33 (v0 : Int) (v2 : Int) (m : mR) : Option Int :=
  bnd (kf_tb_isHashed v0 m) fun y9 =>
  if y9 = 0 then
    kfl_tb_memory_63 v0 v2 y9 ((m.2 75) v0) m
  else
    kfl_tb_memory_63 v0 v2 y9 (cut ((cut (((m.2 75) v0) * ((m.2 76) v0))) + ((m.2 77) v0))) m
theorem dg_tb_memory_33 (w : wX) (c : Nat → Option am_C) (N D : Nat) (bb : Nat) (v0 : Int) (v2 : Int) (q0 : Rt v0) (q2 : R32 v2) (m : mR) (hm : KCn m) (j : Nat → Int) : PP bb w D pm_156 (33, [(0, .ref (tbr v0)), (1, .ref 45), (2, .int (i32 v2)), (3, .int (i32 (j 3)))], [], (khp m c, N), 0, 0) (QS (FP1 (khp m c, N)) (kfl_tb_memory_33 v0 v2 m)) := by
  unfold kfl_tb_memory_33
  show PP bb w D pm_156 (33, [(0, .ref (tbr v0)), (1, .ref 45), (2, .int (i32 v2)), (3, .int (i32 (j 3)))], [], (khp (mO m [] []) c, N), 0, 0) _
  refine P_ld 34 (.ref (tbr v0)) rfl (fun _ => rfl) ?_
  refine P_cp1 37 135 [.ref (tbr v0)] [] rfl (inv_vt (args := []) (khp_t0 _ q0.1 q0.2) rfl rfl rfl) rfl (D_tb_isHashed w m c N D hm v0 q0) (fun y9 h10 => ?_)
  refine P_sto 38 [(3, .int (i32 y9)), (0, .ref (tbr v0)), (1, .ref 45), (2, .int (i32 v2))] rfl (fun _ => rfl) ?_
  refine P_ld 39 (.int (i32 y9)) rfl (fun _ => rfl) ?_
  refine P_ifF 59 42 rfl rfl rfl h10 rfl (fun h12 => ?_) (fun h12 => ?_)
  · skip
    refine P_ld 60 (.ref (tbr v0)) rfl (fun _ => rfl) ?_
    refine PK_gfi 63 75 (m.2 75) rfl rfl q0.1 q0.2 rfl rfl ?_
    refine P_lv (b := [(0, .ref (tbr v0)), (1, .ref 45), (2, .int (i32 v2)), (3, .int (i32 y9))]) rfl rfl ⟨rfl, rfl, rfl, rfl, trivial⟩ ?_
    exact dg_tb_memory_63 w c N D bb v0 v2 y9 ((m.2 75) v0) q0 q2 h10 (kE_i (KCn_a hm 75) rfl _) m hm (jk [])
  · skip
    refine P_ld 43 (.ref (tbr v0)) rfl (fun _ => rfl) ?_
    refine PK_gfi 46 75 (m.2 75) rfl rfl q0.1 q0.2 rfl rfl ?_
    refine P_ld 47 (.ref (tbr v0)) rfl (fun _ => rfl) ?_
    refine PK_gfi 50 76 (m.2 76) rfl rfl q0.1 q0.2 rfl rfl ?_
    refine P_op 51 (cut (((m.2 75) v0) * ((m.2 76) v0))) _ rfl (fun _ => rfl) o_mul ?_
    refine P_ld 52 (.ref (tbr v0)) rfl (fun _ => rfl) ?_
    refine PK_gfi 55 77 (m.2 77) rfl rfl q0.1 q0.2 rfl rfl ?_
    refine P_op 56 (cut ((cut (((m.2 75) v0) * ((m.2 76) v0))) + ((m.2 77) v0))) _ rfl (fun _ => rfl) o_add ?_
    refine P_goto 63 rfl (fun _ => rfl) ?_
    refine P_lv (b := [(0, .ref (tbr v0)), (1, .ref 45), (2, .int (i32 v2)), (3, .int (i32 y9))]) rfl rfl ⟨rfl, rfl, rfl, rfl, trivial⟩ ?_
    exact dg_tb_memory_63 w c N D bb v0 v2 y9 (cut ((cut (((m.2 75) v0) * ((m.2 76) v0))) + ((m.2 77) v0))) q0 q2 h10 cut_r m hm (jk [])
def kfb_tb_memory_4 (v0 : Int) (m : mR) (s : Int × Int) : Option (Sum (Int × Int) (Int)) :=
  if (m.2 73) v0 ≤ s.2 then
    some (.inr s.1)
  else
    bnd (kf_ac_parameterBits ((m.2 83) (65536 * v0 + s.2)) m) fun y15 =>
    bnd (kf_Math_max s.1 y15 m) fun y18 =>
    some (.inl (y18, cut (s.2 + 1)))
theorem dh_tb_memory_4 (w : wX) (c : Nat → Option am_C) (N D : Nat) (v0 : Int) (q0 : Rt v0) (m : mR) (hm : KCn m) (bb : Nat) (Q2 : Sum (Int × Int) (Int) → ag_Re af_T → Prop) (H1 : ∀ s j, cs_tb_memory_4 s → PP bb w D pm_156 (hd_tb_memory_4 c N v0 m s j) (Q2 (.inl s))) (H2 : ∀ x j, cx_tb_memory_4 x → PP bb w D pm_156 (ex_tb_memory_4 c N v0 m x j) (Q2 (.inr x))) (s : Int × Int) (j : Nat → Int) (hs : cs_tb_memory_4 s) : PP (bb + 1) w D pm_156 (hd_tb_memory_4 c N v0 m s j) (QS Q2 (kfb_tb_memory_4 v0 m s)) := by
  obtain ⟨g2, g3⟩ := hs
  unfold kfb_tb_memory_4
  show PP (bb + 1) w D pm_156 (4, [(0, .ref (tbr v0)), (1, .ref 45), (2, .int (i32 s.1)), (3, .int (i32 s.2))], [], (khp (mO m [] []) c, N), 0, 0) _
  refine P1_ld 5 (.int (i32 s.2)) rfl (fun _ => rfl) ?_
  refine P_ld 6 (.ref (tbr v0)) rfl (fun _ => rfl) ?_
  refine PK_gfi 9 73 (m.2 73) rfl rfl q0.1 q0.2 rfl rfl ?_
  refine P_icF 33 12 rfl rfl rfl g3 (kE_i (KCn_a hm 73) rfl _) rfl (fun h14 => ?_) (fun h14 => ?_)
  · skip
    refine P_some ?_
    exact H2 s.1 (jk [(3, s.2)]) g2
  · skip
    refine P_ld 13 (.int (i32 s.1)) rfl (fun _ => rfl) ?_
    refine P_ld 14 (.ref 45) rfl (fun _ => rfl) ?_
    refine P_ld 15 (.ref (tbr v0)) rfl (fun _ => rfl) ?_
    refine PK_gfr 18 rfl rfl q0.1 q0.2 rfl ?_
    refine P_ld 19 (.int (i32 s.2)) rfl (fun _ => rfl) ?_
    refine PK_ialt2 20 4 (m.2 83) rfl rfl rfl q0 g3 rfl ?_
    refine P_cp1 23 157 [.ref 45, .int (i32 ((m.2 83) (65536 * v0 + s.2)))] [.int (i32 s.1)] rfl (fun _ => rfl) rfl (D_ac_parameterBits w m c N D hm ((m.2 83) (65536 * v0 + s.2)) (kE_i (KCn_a hm 83) rfl _)) (fun y15 h16 => ?_)
    refine P_cp1 26 61 [.int (i32 s.1), .int (i32 y15)] [] rfl (fun _ => rfl) rfl (D_Math_max w m c N D hm s.1 y15 g2 h16) (fun y18 h19 => ?_)
    refine P_sto 27 [(2, .int (i32 y18)), (0, .ref (tbr v0)), (1, .ref 45), (3, .int (i32 s.2))] rfl (fun _ => rfl) ?_
    refine P_inc 30 [(3, .int (i32 (cut (s.2 + 1)))), (2, .int (i32 y18)), (0, .ref (tbr v0)), (1, .ref 45)] rfl rfl (by decide) rfl rfl ?_
    refine P_goto 4 rfl (fun _ => rfl) ?_
    refine P_some ?_
    refine P_lv (b := [(0, .ref (tbr v0)), (1, .ref 45), (2, .int (i32 y18)), (3, .int (i32 (cut (s.2 + 1))))]) rfl rfl ⟨rfl, rfl, rfl, rfl, trivial⟩ ?_
    exact H1 (y18, cut (s.2 + 1)) (jk []) ⟨h19, cut_r⟩
def kf_tb_memory (v0 : Int) (m : mR) : Option Int :=
  bnd (whl (kfb_tb_memory_4 v0 m) (0, 0)) (fun e21 : Int =>
    kfl_tb_memory_33 v0 e21 m)
theorem D_tb_memory (w : wX) (m : mR) (c : Nat → Option am_C) (N D : Nat) (hm : KCn m) (v0 : Int) (q0 : Rt v0) : PC w D 156 [.ref (tbr v0), .ref 45] (khp m c, N) (QS (FP1 (khp m c, N)) (kf_tb_memory v0 m)) := by
  refine Pc_of (fun D bb => ?_) D
  unfold kf_tb_memory
  show PP bb w D pm_156 (0, [(0, .ref (tbr v0)), (1, .ref 45)], [], (khp (mO m [] []) c, N), 0, 0) _
  refine P_ld 1 (.int (i32 0)) rfl (fun _ => rfl) ?_
  refine P_sto 2 [(2, .int (i32 0)), (0, .ref (tbr v0)), (1, .ref 45)] rfl (fun _ => rfl) ?_
  refine P_ld 3 (.int (i32 0)) rfl (fun _ => rfl) ?_
  refine P_sto 4 [(3, .int (i32 0)), (2, .int (i32 0)), (0, .ref (tbr v0)), (1, .ref 45)] rfl (fun _ => rfl) ?_
  refine P_lv (b := [(0, .ref (tbr v0)), (1, .ref 45), (2, .int (i32 0)), (3, .int (i32 0))]) rfl rfl ⟨rfl, rfl, rfl, rfl, trivial⟩ ?_
  refine P_bnd ?_
  refine P_whl (fun bb Q2 H1 H2 s9 j9 hs9 => dh_tb_memory_4 w c N D v0 q0 m hm bb Q2 H1 H2 s9 j9 hs9) bb (fun e21 j q22 => ?_) (0, 0) (jk []) ⟨(l32 0 rfl), (l32 0 rfl)⟩
  have q23 := q22
  show PP bb w D pm_156 (33, [(0, .ref (tbr v0)), (1, .ref 45), (2, .int (i32 e21)), (3, .int (i32 (j 3)))], [], (khp (mO m [] []) c, N), 0, 0) (QS _ (kfl_tb_memory_33 v0 e21 m))
  exact dg_tb_memory_33 w c N D bb v0 e21 q0 q23 m hm (jk [(3, j 3)])
def cs_sp_meet_b61_b60_3 (s : Int) : Prop := R32 s
def cx_sp_meet_b61_b60_3 : (Sum (Unit) (Unit)) → Prop := (sel (fun (e : Unit) => True) (fun (e : Unit) => True))
def hd_sp_meet_b61_b60_3 (c : Nat → Option am_C) (N : Nat) (v2 : Int) (v4 : Int) (m : mR) (s : Int) (j : Nat → Int) : ag_St af_T := (3, [(0, .ref 59), (1, .ref 69), (2, .int (i32 v2)), (3, .ref 68), (4, .int (i32 v4)), (5, .int (i32 s))], [], (khp m c, N), 0, 0)
def ex_sp_meet_b61_b60_3 (c : Nat → Option am_C) (N : Nat) (v2 : Int) (v4 : Int) (m : mR) : (Sum (Unit) (Unit)) → (Nat → Int) → ag_St af_T := (sel (fun (e : Unit) (j : Nat → Int) => ((32, [(0, .ref 59), (1, .ref 69), (2, .int (i32 (j 2))), (3, .ref 68), (4, .int (i32 (j 4))), (5, .int (i32 (j 5)))], [], (khp m c, N), 0, 0) : ag_St af_T)) (fun (e : Unit) (j : Nat → Int) => ((40, [(0, .ref 59), (1, .ref 69), (2, .int (i32 (j 2))), (3, .ref 68), (4, .int (i32 (j 4))), (5, .int (i32 (j 5)))], [], (khp m c, N), 0, 0) : ag_St af_T)))
def kfb_sp_meet_b61_b60_3 (v2 : Int) (v4 : Int) (m : mR) (s : Int) : Option (Sum (Int) (Sum (Unit) (Unit))) :=
  if (4 : Int) ≤ s then
    some (.inr (.inr ()))
  else
    if cmp64 (and64 ((m.2 61) (cut ((cut (v2 * 4)) + s))) ((m.2 60) (cut ((cut (v4 * 4)) + s)))) 0 = 0 then
      some (.inl (cut (s + 1)))
    else
      some (.inr (.inl ()))
theorem dh_sp_meet_b61_b60_3 (w : wX) (c : Nat → Option am_C) (N D : Nat) (v2 : Int) (v4 : Int) (q2 : R32 v2) (q4 : R32 v4) (m : mR) (hm : KCn m) (bb : Nat) (Q2 : Sum (Int) (Sum (Unit) (Unit)) → ag_Re af_T → Prop) (H1 : ∀ s j, cs_sp_meet_b61_b60_3 s → PP bb w D pm_160 (hd_sp_meet_b61_b60_3 c N v2 v4 m s j) (Q2 (.inl s))) (H2 : ∀ x j, cx_sp_meet_b61_b60_3 x → PP bb w D pm_160 (ex_sp_meet_b61_b60_3 c N v2 v4 m x j) (Q2 (.inr x))) (s : Int) (j : Nat → Int) (hs : cs_sp_meet_b61_b60_3 s) : PP (bb + 1) w D pm_160 (hd_sp_meet_b61_b60_3 c N v2 v4 m s j) (QS Q2 (kfb_sp_meet_b61_b60_3 v2 v4 m s)) := by
  have g5 := hs
  unfold kfb_sp_meet_b61_b60_3
  show PP (bb + 1) w D pm_160 (3, [(0, .ref 59), (1, .ref 69), (2, .int (i32 v2)), (3, .ref 68), (4, .int (i32 v4)), (5, .int (i32 s))], [], (khp (mO m [] []) c, N), 0, 0) _
  refine P1_ld 5 (.int (i32 s)) rfl (fun _ => rfl) ?_
  refine P_ld 6 (.int (i32 4)) rfl (fun _ => rfl) ?_
  refine P_icF 40 9 rfl rfl rfl g5 (l32 4 rfl) rfl (fun h1 => ?_) (fun h1 => ?_)
  · skip
    refine P_some ?_
    exact H2 (.inr ()) (jk [(2, v2), (4, v4), (5, s)]) trivial
  · skip
    refine P_ld 10 (.ref 69) rfl (fun _ => rfl) ?_
    refine P_ld 11 (.int (i32 v2)) rfl (fun _ => rfl) ?_
    refine P_ld 12 (.int (i32 4)) rfl (fun _ => rfl) ?_
    refine P_op 13 (cut (v2 * 4)) _ rfl (fun _ => rfl) o_mul ?_
    refine P_ld 15 (.int (i32 s)) rfl (fun _ => rfl) ?_
    refine P_op 16 (cut ((cut (v2 * 4)) + s)) _ rfl (fun _ => rfl) o_add ?_
    refine PK_lald2 17 61 (m.2 61) rfl rfl rfl cut_r rfl ?_
    refine P_ld 18 (.ref 68) rfl (fun _ => rfl) ?_
    refine P_ld 20 (.int (i32 v4)) rfl (fun _ => rfl) ?_
    refine P_ld 21 (.int (i32 4)) rfl (fun _ => rfl) ?_
    refine P_op 22 (cut (v4 * 4)) _ rfl (fun _ => rfl) o_mul ?_
    refine P_ld 24 (.int (i32 s)) rfl (fun _ => rfl) ?_
    refine P_op 25 (cut ((cut (v4 * 4)) + s)) _ rfl (fun _ => rfl) o_add ?_
    refine PK_lald2 26 60 (m.2 60) rfl rfl rfl cut_r rfl ?_
    refine P_opl 27 (and64 ((m.2 61) (cut ((cut (v2 * 4)) + s))) ((m.2 60) (cut ((cut (v4 * 4)) + s)))) _ rfl (fun _ => rfl) (Int64.ofInt_toInt _).symm ?_
    refine P_ld 28 (.long (i64 0)) rfl (fun _ => rfl) ?_
    refine P_op 29 (cmp64 (and64 ((m.2 61) (cut ((cut (v2 * 4)) + s))) ((m.2 60) (cut ((cut (v4 * 4)) + s)))) 0) _ rfl (fun _ => rfl) (o_cmp t64_r (l64 0 rfl)) ?_
    refine P_ifF 34 32 rfl rfl rfl cmp64_r rfl (fun h2 => ?_) (fun h2 => ?_)
    · skip
      refine P_inc 37 [(5, .int (i32 (cut (s + 1)))), (0, .ref 59), (1, .ref 69), (2, .int (i32 v2)), (3, .ref 68), (4, .int (i32 v4))] rfl rfl (by decide) rfl rfl ?_
      refine P_goto 3 rfl (fun _ => rfl) ?_
      refine P_some ?_
      refine P_lv (b := [(0, .ref 59), (1, .ref 69), (2, .int (i32 v2)), (3, .ref 68), (4, .int (i32 v4)), (5, .int (i32 (cut (s + 1))))]) rfl rfl ⟨rfl, rfl, rfl, rfl, rfl, rfl, trivial⟩ ?_
      exact H1 (cut (s + 1)) (jk []) cut_r
    · skip
      refine P_some ?_
      exact H2 (.inl ()) (jk [(2, v2), (4, v4), (5, s)]) trivial
def kf_sp_meet_b61_b60 (v2 : Int) (v4 : Int) (m : mR) : Option Int :=
  bnd (whl (kfb_sp_meet_b61_b60_3 v2 v4 m) 0) (sel
    (fun e3 : Unit =>
      some 1)
    (fun e5 : Unit =>
      some 0))
theorem D_sp_meet_b61_b60 (w : wX) (m : mR) (c : Nat → Option am_C) (N D : Nat) (hm : KCn m) (v2 : Int) (v4 : Int) (q2 : R32 v2) (q4 : R32 v4) : PC w D 160 [.ref 59, .ref 69, .int (i32 v2), .ref 68, .int (i32 v4)] (khp m c, N) (QS (FP1 (khp m c, N)) (kf_sp_meet_b61_b60 v2 v4 m)) := by
  refine Pc_of (fun D bb => ?_) D
  unfold kf_sp_meet_b61_b60
  show PP bb w D pm_160 (0, [(0, .ref 59), (1, .ref 69), (2, .int (i32 v2)), (3, .ref 68), (4, .int (i32 v4))], [], (khp (mO m [] []) c, N), 0, 0) _
  refine P_ld 1 (.int (i32 0)) rfl (fun _ => rfl) ?_
  refine P_sto 3 [(5, .int (i32 0)), (0, .ref 59), (1, .ref 69), (2, .int (i32 v2)), (3, .ref 68), (4, .int (i32 v4))] rfl (fun _ => rfl) ?_
  refine P_lv (b := [(0, .ref 59), (1, .ref 69), (2, .int (i32 v2)), (3, .ref 68), (4, .int (i32 v4)), (5, .int (i32 0))]) rfl rfl ⟨rfl, rfl, rfl, rfl, rfl, rfl, trivial⟩ ?_
  refine P_bnd ?_
  refine P_whl (fun bb Q2 H1 H2 s9 j9 hs9 => dh_sp_meet_b61_b60_3 w c N D v2 v4 q2 q4 m hm bb Q2 H1 H2 s9 j9 hs9) bb (fun x0 j hx0 => ?_) 0 (jk []) (l32 0 rfl)
  cases x0 with
  | inl e3 =>
    have q4 := hx0
    show PP bb w D pm_160 (32, [(0, .ref 59), (1, .ref 69), (2, .int (i32 (j 2))), (3, .ref 68), (4, .int (i32 (j 4))), (5, .int (i32 (j 5)))], [], (khp (mO m [] []) c, N), 0, 0) (QS _ (some 1))
    refine P_ld 33 (.int (i32 1)) rfl (fun _ => rfl) ?_
    exact P_rp1 rfl (l32 1 rfl)
  | inr e5 =>
    have q6 := hx0
    show PP bb w D pm_160 (40, [(0, .ref 59), (1, .ref 69), (2, .int (i32 (j 2))), (3, .ref 68), (4, .int (i32 (j 4))), (5, .int (i32 (j 5)))], [], (khp (mO m [] []) c, N), 0, 0) (QS _ (some 0))
    refine P_ld 41 (.int (i32 0)) rfl (fun _ => rfl) ?_
    exact P_rp1 rfl (l32 0 rfl)
def cs_sp_meet_b60_b61_3 (s : Int) : Prop := R32 s
def cx_sp_meet_b60_b61_3 : (Sum (Unit) (Unit)) → Prop := (sel (fun (e : Unit) => True) (fun (e : Unit) => True))
def hd_sp_meet_b60_b61_3 (c : Nat → Option am_C) (N : Nat) (v2 : Int) (v4 : Int) (m : mR) (s : Int) (j : Nat → Int) : ag_St af_T := (3, [(0, .ref 59), (1, .ref 68), (2, .int (i32 v2)), (3, .ref 69), (4, .int (i32 v4)), (5, .int (i32 s))], [], (khp m c, N), 0, 0)
def ex_sp_meet_b60_b61_3 (c : Nat → Option am_C) (N : Nat) (v2 : Int) (v4 : Int) (m : mR) : (Sum (Unit) (Unit)) → (Nat → Int) → ag_St af_T := (sel (fun (e : Unit) (j : Nat → Int) => ((32, [(0, .ref 59), (1, .ref 68), (2, .int (i32 (j 2))), (3, .ref 69), (4, .int (i32 (j 4))), (5, .int (i32 (j 5)))], [], (khp m c, N), 0, 0) : ag_St af_T)) (fun (e : Unit) (j : Nat → Int) => ((40, [(0, .ref 59), (1, .ref 68), (2, .int (i32 (j 2))), (3, .ref 69), (4, .int (i32 (j 4))), (5, .int (i32 (j 5)))], [], (khp m c, N), 0, 0) : ag_St af_T)))
def kfb_sp_meet_b60_b61_3 (v2 : Int) (v4 : Int) (m : mR) (s : Int) : Option (Sum (Int) (Sum (Unit) (Unit))) :=
  if (4 : Int) ≤ s then
    some (.inr (.inr ()))
  else
    if cmp64 (and64 ((m.2 60) (cut ((cut (v2 * 4)) + s))) ((m.2 61) (cut ((cut (v4 * 4)) + s)))) 0 = 0 then
      some (.inl (cut (s + 1)))
    else
      some (.inr (.inl ()))
theorem dh_sp_meet_b60_b61_3 (w : wX) (c : Nat → Option am_C) (N D : Nat) (v2 : Int) (v4 : Int) (q2 : R32 v2) (q4 : R32 v4) (m : mR) (hm : KCn m) (bb : Nat) (Q2 : Sum (Int) (Sum (Unit) (Unit)) → ag_Re af_T → Prop) (H1 : ∀ s j, cs_sp_meet_b60_b61_3 s → PP bb w D pm_160 (hd_sp_meet_b60_b61_3 c N v2 v4 m s j) (Q2 (.inl s))) (H2 : ∀ x j, cx_sp_meet_b60_b61_3 x → PP bb w D pm_160 (ex_sp_meet_b60_b61_3 c N v2 v4 m x j) (Q2 (.inr x))) (s : Int) (j : Nat → Int) (hs : cs_sp_meet_b60_b61_3 s) : PP (bb + 1) w D pm_160 (hd_sp_meet_b60_b61_3 c N v2 v4 m s j) (QS Q2 (kfb_sp_meet_b60_b61_3 v2 v4 m s)) := by
  have g5 := hs
  unfold kfb_sp_meet_b60_b61_3
  show PP (bb + 1) w D pm_160 (3, [(0, .ref 59), (1, .ref 68), (2, .int (i32 v2)), (3, .ref 69), (4, .int (i32 v4)), (5, .int (i32 s))], [], (khp (mO m [] []) c, N), 0, 0) _
  refine P1_ld 5 (.int (i32 s)) rfl (fun _ => rfl) ?_
  refine P_ld 6 (.int (i32 4)) rfl (fun _ => rfl) ?_
  refine P_icF 40 9 rfl rfl rfl g5 (l32 4 rfl) rfl (fun h1 => ?_) (fun h1 => ?_)
  · skip
    refine P_some ?_
    exact H2 (.inr ()) (jk [(2, v2), (4, v4), (5, s)]) trivial
  · skip
    refine P_ld 10 (.ref 68) rfl (fun _ => rfl) ?_
    refine P_ld 11 (.int (i32 v2)) rfl (fun _ => rfl) ?_
    refine P_ld 12 (.int (i32 4)) rfl (fun _ => rfl) ?_
    refine P_op 13 (cut (v2 * 4)) _ rfl (fun _ => rfl) o_mul ?_
    refine P_ld 15 (.int (i32 s)) rfl (fun _ => rfl) ?_
    refine P_op 16 (cut ((cut (v2 * 4)) + s)) _ rfl (fun _ => rfl) o_add ?_
    refine PK_lald2 17 60 (m.2 60) rfl rfl rfl cut_r rfl ?_
    refine P_ld 18 (.ref 69) rfl (fun _ => rfl) ?_
    refine P_ld 20 (.int (i32 v4)) rfl (fun _ => rfl) ?_
    refine P_ld 21 (.int (i32 4)) rfl (fun _ => rfl) ?_
    refine P_op 22 (cut (v4 * 4)) _ rfl (fun _ => rfl) o_mul ?_
    refine P_ld 24 (.int (i32 s)) rfl (fun _ => rfl) ?_
    refine P_op 25 (cut ((cut (v4 * 4)) + s)) _ rfl (fun _ => rfl) o_add ?_
    refine PK_lald2 26 61 (m.2 61) rfl rfl rfl cut_r rfl ?_
    refine P_opl 27 (and64 ((m.2 60) (cut ((cut (v2 * 4)) + s))) ((m.2 61) (cut ((cut (v4 * 4)) + s)))) _ rfl (fun _ => rfl) (Int64.ofInt_toInt _).symm ?_
    refine P_ld 28 (.long (i64 0)) rfl (fun _ => rfl) ?_
    refine P_op 29 (cmp64 (and64 ((m.2 60) (cut ((cut (v2 * 4)) + s))) ((m.2 61) (cut ((cut (v4 * 4)) + s)))) 0) _ rfl (fun _ => rfl) (o_cmp t64_r (l64 0 rfl)) ?_
    refine P_ifF 34 32 rfl rfl rfl cmp64_r rfl (fun h2 => ?_) (fun h2 => ?_)
    · skip
      refine P_inc 37 [(5, .int (i32 (cut (s + 1)))), (0, .ref 59), (1, .ref 68), (2, .int (i32 v2)), (3, .ref 69), (4, .int (i32 v4))] rfl rfl (by decide) rfl rfl ?_
      refine P_goto 3 rfl (fun _ => rfl) ?_
      refine P_some ?_
      refine P_lv (b := [(0, .ref 59), (1, .ref 68), (2, .int (i32 v2)), (3, .ref 69), (4, .int (i32 v4)), (5, .int (i32 (cut (s + 1))))]) rfl rfl ⟨rfl, rfl, rfl, rfl, rfl, rfl, trivial⟩ ?_
      exact H1 (cut (s + 1)) (jk []) cut_r
    · skip
      refine P_some ?_
      exact H2 (.inl ()) (jk [(2, v2), (4, v4), (5, s)]) trivial
def kf_sp_meet_b60_b61 (v2 : Int) (v4 : Int) (m : mR) : Option Int :=
  bnd (whl (kfb_sp_meet_b60_b61_3 v2 v4 m) 0) (sel
    (fun e3 : Unit =>
      some 1)
    (fun e5 : Unit =>
      some 0))
theorem D_sp_meet_b60_b61 (w : wX) (m : mR) (c : Nat → Option am_C) (N D : Nat) (hm : KCn m) (v2 : Int) (v4 : Int) (q2 : R32 v2) (q4 : R32 v4) : PC w D 160 [.ref 59, .ref 68, .int (i32 v2), .ref 69, .int (i32 v4)] (khp m c, N) (QS (FP1 (khp m c, N)) (kf_sp_meet_b60_b61 v2 v4 m)) := by
  refine Pc_of (fun D bb => ?_) D
  unfold kf_sp_meet_b60_b61
  show PP bb w D pm_160 (0, [(0, .ref 59), (1, .ref 68), (2, .int (i32 v2)), (3, .ref 69), (4, .int (i32 v4))], [], (khp (mO m [] []) c, N), 0, 0) _
  refine P_ld 1 (.int (i32 0)) rfl (fun _ => rfl) ?_
  refine P_sto 3 [(5, .int (i32 0)), (0, .ref 59), (1, .ref 68), (2, .int (i32 v2)), (3, .ref 69), (4, .int (i32 v4))] rfl (fun _ => rfl) ?_
  refine P_lv (b := [(0, .ref 59), (1, .ref 68), (2, .int (i32 v2)), (3, .ref 69), (4, .int (i32 v4)), (5, .int (i32 0))]) rfl rfl ⟨rfl, rfl, rfl, rfl, rfl, rfl, trivial⟩ ?_
  refine P_bnd ?_
  refine P_whl (fun bb Q2 H1 H2 s9 j9 hs9 => dh_sp_meet_b60_b61_3 w c N D v2 v4 q2 q4 m hm bb Q2 H1 H2 s9 j9 hs9) bb (fun x0 j hx0 => ?_) 0 (jk []) (l32 0 rfl)
  cases x0 with
  | inl e3 =>
    have q4 := hx0
    show PP bb w D pm_160 (32, [(0, .ref 59), (1, .ref 68), (2, .int (i32 (j 2))), (3, .ref 69), (4, .int (i32 (j 4))), (5, .int (i32 (j 5)))], [], (khp (mO m [] []) c, N), 0, 0) (QS _ (some 1))
    refine P_ld 33 (.int (i32 1)) rfl (fun _ => rfl) ?_
    exact P_rp1 rfl (l32 1 rfl)
  | inr e5 =>
    have q6 := hx0
    show PP bb w D pm_160 (40, [(0, .ref 59), (1, .ref 68), (2, .int (i32 (j 2))), (3, .ref 69), (4, .int (i32 (j 4))), (5, .int (i32 (j 5)))], [], (khp (mO m [] []) c, N), 0, 0) (QS _ (some 0))
    refine P_ld 41 (.int (i32 0)) rfl (fun _ => rfl) ?_
    exact P_rp1 rfl (l32 0 rfl)
def cs_sp_meet_b61_b61_3 (s : Int) : Prop := R32 s
def cx_sp_meet_b61_b61_3 : (Sum (Unit) (Unit)) → Prop := (sel (fun (e : Unit) => True) (fun (e : Unit) => True))
def hd_sp_meet_b61_b61_3 (c : Nat → Option am_C) (N : Nat) (v2 : Int) (v4 : Int) (m : mR) (s : Int) (j : Nat → Int) : ag_St af_T := (3, [(0, .ref 59), (1, .ref 69), (2, .int (i32 v2)), (3, .ref 69), (4, .int (i32 v4)), (5, .int (i32 s))], [], (khp m c, N), 0, 0)
def ex_sp_meet_b61_b61_3 (c : Nat → Option am_C) (N : Nat) (v2 : Int) (v4 : Int) (m : mR) : (Sum (Unit) (Unit)) → (Nat → Int) → ag_St af_T := (sel (fun (e : Unit) (j : Nat → Int) => ((32, [(0, .ref 59), (1, .ref 69), (2, .int (i32 (j 2))), (3, .ref 69), (4, .int (i32 (j 4))), (5, .int (i32 (j 5)))], [], (khp m c, N), 0, 0) : ag_St af_T)) (fun (e : Unit) (j : Nat → Int) => ((40, [(0, .ref 59), (1, .ref 69), (2, .int (i32 (j 2))), (3, .ref 69), (4, .int (i32 (j 4))), (5, .int (i32 (j 5)))], [], (khp m c, N), 0, 0) : ag_St af_T)))
def kfb_sp_meet_b61_b61_3 (v2 : Int) (v4 : Int) (m : mR) (s : Int) : Option (Sum (Int) (Sum (Unit) (Unit))) :=
  if (4 : Int) ≤ s then
    some (.inr (.inr ()))
  else
    if cmp64 (and64 ((m.2 61) (cut ((cut (v2 * 4)) + s))) ((m.2 61) (cut ((cut (v4 * 4)) + s)))) 0 = 0 then
      some (.inl (cut (s + 1)))
    else
      some (.inr (.inl ()))
theorem dh_sp_meet_b61_b61_3 (w : wX) (c : Nat → Option am_C) (N D : Nat) (v2 : Int) (v4 : Int) (q2 : R32 v2) (q4 : R32 v4) (m : mR) (hm : KCn m) (bb : Nat) (Q2 : Sum (Int) (Sum (Unit) (Unit)) → ag_Re af_T → Prop) (H1 : ∀ s j, cs_sp_meet_b61_b61_3 s → PP bb w D pm_160 (hd_sp_meet_b61_b61_3 c N v2 v4 m s j) (Q2 (.inl s))) (H2 : ∀ x j, cx_sp_meet_b61_b61_3 x → PP bb w D pm_160 (ex_sp_meet_b61_b61_3 c N v2 v4 m x j) (Q2 (.inr x))) (s : Int) (j : Nat → Int) (hs : cs_sp_meet_b61_b61_3 s) : PP (bb + 1) w D pm_160 (hd_sp_meet_b61_b61_3 c N v2 v4 m s j) (QS Q2 (kfb_sp_meet_b61_b61_3 v2 v4 m s)) := by
  have g5 := hs
  unfold kfb_sp_meet_b61_b61_3
  show PP (bb + 1) w D pm_160 (3, [(0, .ref 59), (1, .ref 69), (2, .int (i32 v2)), (3, .ref 69), (4, .int (i32 v4)), (5, .int (i32 s))], [], (khp (mO m [] []) c, N), 0, 0) _
  refine P1_ld 5 (.int (i32 s)) rfl (fun _ => rfl) ?_
  refine P_ld 6 (.int (i32 4)) rfl (fun _ => rfl) ?_
  refine P_icF 40 9 rfl rfl rfl g5 (l32 4 rfl) rfl (fun h1 => ?_) (fun h1 => ?_)
  · skip
    refine P_some ?_
    exact H2 (.inr ()) (jk [(2, v2), (4, v4), (5, s)]) trivial
  · skip
    refine P_ld 10 (.ref 69) rfl (fun _ => rfl) ?_
    refine P_ld 11 (.int (i32 v2)) rfl (fun _ => rfl) ?_
    refine P_ld 12 (.int (i32 4)) rfl (fun _ => rfl) ?_
    refine P_op 13 (cut (v2 * 4)) _ rfl (fun _ => rfl) o_mul ?_
    refine P_ld 15 (.int (i32 s)) rfl (fun _ => rfl) ?_
    refine P_op 16 (cut ((cut (v2 * 4)) + s)) _ rfl (fun _ => rfl) o_add ?_
    refine PK_lald2 17 61 (m.2 61) rfl rfl rfl cut_r rfl ?_
    refine P_ld 18 (.ref 69) rfl (fun _ => rfl) ?_
    refine P_ld 20 (.int (i32 v4)) rfl (fun _ => rfl) ?_
    refine P_ld 21 (.int (i32 4)) rfl (fun _ => rfl) ?_
    refine P_op 22 (cut (v4 * 4)) _ rfl (fun _ => rfl) o_mul ?_
    refine P_ld 24 (.int (i32 s)) rfl (fun _ => rfl) ?_
    refine P_op 25 (cut ((cut (v4 * 4)) + s)) _ rfl (fun _ => rfl) o_add ?_
    refine PK_lald2 26 61 (m.2 61) rfl rfl rfl cut_r rfl ?_
    refine P_opl 27 (and64 ((m.2 61) (cut ((cut (v2 * 4)) + s))) ((m.2 61) (cut ((cut (v4 * 4)) + s)))) _ rfl (fun _ => rfl) (Int64.ofInt_toInt _).symm ?_
    refine P_ld 28 (.long (i64 0)) rfl (fun _ => rfl) ?_
    refine P_op 29 (cmp64 (and64 ((m.2 61) (cut ((cut (v2 * 4)) + s))) ((m.2 61) (cut ((cut (v4 * 4)) + s)))) 0) _ rfl (fun _ => rfl) (o_cmp t64_r (l64 0 rfl)) ?_
    refine P_ifF 34 32 rfl rfl rfl cmp64_r rfl (fun h2 => ?_) (fun h2 => ?_)
    · skip
      refine P_inc 37 [(5, .int (i32 (cut (s + 1)))), (0, .ref 59), (1, .ref 69), (2, .int (i32 v2)), (3, .ref 69), (4, .int (i32 v4))] rfl rfl (by decide) rfl rfl ?_
      refine P_goto 3 rfl (fun _ => rfl) ?_
      refine P_some ?_
      refine P_lv (b := [(0, .ref 59), (1, .ref 69), (2, .int (i32 v2)), (3, .ref 69), (4, .int (i32 v4)), (5, .int (i32 (cut (s + 1))))]) rfl rfl ⟨rfl, rfl, rfl, rfl, rfl, rfl, trivial⟩ ?_
      exact H1 (cut (s + 1)) (jk []) cut_r
    · skip
      refine P_some ?_
      exact H2 (.inl ()) (jk [(2, v2), (4, v4), (5, s)]) trivial
def kf_sp_meet_b61_b61 (v2 : Int) (v4 : Int) (m : mR) : Option Int :=
  bnd (whl (kfb_sp_meet_b61_b61_3 v2 v4 m) 0) (sel
    (fun e3 : Unit =>
      some 1)
    (fun e5 : Unit =>
      some 0))
theorem D_sp_meet_b61_b61 (w : wX) (m : mR) (c : Nat → Option am_C) (N D : Nat) (hm : KCn m) (v2 : Int) (v4 : Int) (q2 : R32 v2) (q4 : R32 v4) : PC w D 160 [.ref 59, .ref 69, .int (i32 v2), .ref 69, .int (i32 v4)] (khp m c, N) (QS (FP1 (khp m c, N)) (kf_sp_meet_b61_b61 v2 v4 m)) := by
  refine Pc_of (fun D bb => ?_) D
  unfold kf_sp_meet_b61_b61
  show PP bb w D pm_160 (0, [(0, .ref 59), (1, .ref 69), (2, .int (i32 v2)), (3, .ref 69), (4, .int (i32 v4))], [], (khp (mO m [] []) c, N), 0, 0) _
  refine P_ld 1 (.int (i32 0)) rfl (fun _ => rfl) ?_
  refine P_sto 3 [(5, .int (i32 0)), (0, .ref 59), (1, .ref 69), (2, .int (i32 v2)), (3, .ref 69), (4, .int (i32 v4))] rfl (fun _ => rfl) ?_
  refine P_lv (b := [(0, .ref 59), (1, .ref 69), (2, .int (i32 v2)), (3, .ref 69), (4, .int (i32 v4)), (5, .int (i32 0))]) rfl rfl ⟨rfl, rfl, rfl, rfl, rfl, rfl, trivial⟩ ?_
  refine P_bnd ?_
  refine P_whl (fun bb Q2 H1 H2 s9 j9 hs9 => dh_sp_meet_b61_b61_3 w c N D v2 v4 q2 q4 m hm bb Q2 H1 H2 s9 j9 hs9) bb (fun x0 j hx0 => ?_) 0 (jk []) (l32 0 rfl)
  cases x0 with
  | inl e3 =>
    have q4 := hx0
    show PP bb w D pm_160 (32, [(0, .ref 59), (1, .ref 69), (2, .int (i32 (j 2))), (3, .ref 69), (4, .int (i32 (j 4))), (5, .int (i32 (j 5)))], [], (khp (mO m [] []) c, N), 0, 0) (QS _ (some 1))
    refine P_ld 33 (.int (i32 1)) rfl (fun _ => rfl) ?_
    exact P_rp1 rfl (l32 1 rfl)
  | inr e5 =>
    have q6 := hx0
    show PP bb w D pm_160 (40, [(0, .ref 59), (1, .ref 69), (2, .int (i32 (j 2))), (3, .ref 69), (4, .int (i32 (j 4))), (5, .int (i32 (j 5)))], [], (khp (mO m [] []) c, N), 0, 0) (QS _ (some 0))
    refine P_ld 41 (.int (i32 0)) rfl (fun _ => rfl) ?_
    exact P_rp1 rfl (l32 0 rfl)
end X28Q
