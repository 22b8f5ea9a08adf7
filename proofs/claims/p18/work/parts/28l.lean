noncomputable section X28L
def cs_rd_defaultLine_69 (s : Int × Int × Int × mR) : Prop := R32 s.1 ∧ R32 s.2.1 ∧ R32 s.2.2.1 ∧ KCn s.2.2.2
def cx_rd_defaultLine_69 : (Sum (Int × mR) (Int × mR)) → Prop := (sel (fun (e : Int × mR) => R32 e.1 ∧ KCn e.2) (fun (e : Int × mR) => False))
def hd_rd_defaultLine_69 (c : Nat → Option am_C) (N : Nat) (v1 : Int) (v2 : Int) (v3 : Int) (v4 : Int) (s : Int × Int × Int × mR) (j : Nat → Int) : ag_St af_T := (69, [(0, .ref 178), (1, .ref (tbr v1)), (2, .int (i32 v2)), (3, .int (i32 v3)), (4, .int (i32 v4)), (5, .int (i32 s.1)), (6, .int (i32 s.2.1)), (7, .int (i32 s.2.2.1)), (8, .int (i32 (j 8))), (9, .int (i32 (j 9))), (10, .long (i64 (j 10)))], [], (khp s.2.2.2 c, N), 0, 0)
def ex_rd_defaultLine_69 (c : Nat → Option am_C) (N : Nat) (v1 : Int) (v2 : Int) (v3 : Int) (v4 : Int) : (Sum (Int × mR) (Int × mR)) → (Nat → Int) → ag_St af_T := (sel (fun (e : Int × mR) (j : Nat → Int) => ((159, [(0, .ref 178), (1, .ref (tbr (j 1))), (2, .int (i32 v2)), (3, .int (i32 (j 3))), (4, .int (i32 v4)), (5, .int (i32 e.1)), (6, .int (i32 (j 6))), (7, .int (i32 (j 7))), (8, .int (i32 (j 8))), (9, .int (i32 (j 9))), (10, .long (i64 (j 10)))], [], (khp e.2 c, N), 0, 0) : ag_St af_T)) (fun (e : Int × mR) (j : Nat → Int) => ((0, [], [], (khp e.2 c, N), 0, 0) : ag_St af_T)))
def tx_rd_defaultLine_69 (c : Nat → Option am_C) (N : Nat) : (Sum (Int × mR) (Int × mR)) → ag_Re af_T → Prop := (sel (fun (_ : Int × mR) (_ : ag_Re af_T) => False) (fun (e : Int × mR) (r : ag_Re af_T) => ∃ x : Nat, e.1 = x + 1 ∧ KCn e.2 ∧ r = (.inr x, (khp e.2 c, N), 1, 6)))
def kfl_rd_defaultLine_188 (m : mR) : Option (Int × Int × mR) :=
  bnd (kf_tx_expect 41 m) fun y3 =>
  if y3.1 = 0 then
    bnd (kf_tx_expect 59 y3.2.2) fun y6 =>
    if y6.1 = 0 then
      some (0, 0, y6.2.2)
    else
      some (y6.1, 0, y6.2.2)
  else
    some (y3.1, 0, y3.2.2)
theorem dg_rd_defaultLine_188 (w : wX) (c : Nat → Option am_C) (N D : Nat) (bb : Nat) (m : mR) (hm : KCn m) (j : Nat → Int) : PP bb w D pm_133 (188, [(0, .ref 178), (1, .ref (tbr (j 1))), (2, .int (i32 (j 2))), (3, .int (i32 (j 3))), (4, .int (i32 (j 4))), (5, .int (i32 (j 5))), (6, .int (i32 (j 6))), (7, .int (i32 (j 7))), (8, .int (i32 (j 8))), (9, .int (i32 (j 9))), (10, .long (i64 (j 10)))], [], (khp m c, N), 0, 0) (QS (FX0 c N) (kfl_rd_defaultLine_188 m)) := by
  unfold kfl_rd_defaultLine_188
  show PP bb w D pm_133 (188, [(0, .ref 178), (1, .ref (tbr (j 1))), (2, .int (i32 (j 2))), (3, .int (i32 (j 3))), (4, .int (i32 (j 4))), (5, .int (i32 (j 5))), (6, .int (i32 (j 6))), (7, .int (i32 (j 7))), (8, .int (i32 (j 8))), (9, .int (i32 (j 9))), (10, .long (i64 (j 10)))], [], (khp (mO m [] []) c, N), 0, 0) _
  refine P_ld 189 (.ref 178) rfl (fun _ => rfl) ?_
  refine PK_gf 192 (.ref 6) rfl rfl kd_178 rfl rfl rfl ?_
  refine P_ld 194 (.int (i32 41)) rfl (fun _ => rfl) ?_
  refine P_cx0 197 78 [.ref 6, .int (i32 41)] [] rfl (fun _ => rfl) rfl rfl (D_tx_expect w m c N D hm 41 (l32 41 rfl)) (fun y x hm e => ⟨_, rfl, hm, Or.inr ⟨x, e, rfl⟩⟩) (fun y3 n5 => ?_)
  refine P_ld 198 (.ref 178) rfl (fun _ => rfl) ?_
  refine PK_gf 201 (.ref 6) rfl rfl kd_178 rfl rfl rfl ?_
  refine P_ld 203 (.int (i32 59)) rfl (fun _ => rfl) ?_
  refine P_cx0 206 78 [.ref 6, .int (i32 59)] [] rfl (fun _ => rfl) rfl rfl (D_tx_expect w y3.2.2 c N D n5 59 (l32 59 rfl)) (fun y x hm e => ⟨_, rfl, hm, Or.inr ⟨x, e, rfl⟩⟩) (fun y6 n8 => ?_)
  exact P_rx0 rfl rfl n8
def kfl_rd_defaultLine_159 (v2 : Int) (v4 : Int) (v5 : Int) (m : mR) : Option (Int × Int × mR) :=
  if m.1 206 = 41 then
    if v5 = v4 then
      kfl_rd_defaultLine_188 m
    else
      bnd (kf_tx_fail 8 v2 m) fun y11 =>
      if y11.1 = 0 then
        kfl_rd_defaultLine_188 y11.2.2
      else
        some (y11.1, 0, y11.2.2)
  else
    kfl_rd_defaultLine_188 m
theorem dg_rd_defaultLine_159 (w : wX) (c : Nat → Option am_C) (N D : Nat) (bb : Nat) (v2 : Int) (v4 : Int) (v5 : Int) (q2 : R32 v2) (q4 : R32 v4) (q5 : R32 v5) (m : mR) (hm : KCn m) (j : Nat → Int) : PP bb w D pm_133 (159, [(0, .ref 178), (1, .ref (tbr (j 1))), (2, .int (i32 v2)), (3, .int (i32 (j 3))), (4, .int (i32 v4)), (5, .int (i32 v5)), (6, .int (i32 (j 6))), (7, .int (i32 (j 7))), (8, .int (i32 (j 8))), (9, .int (i32 (j 9))), (10, .long (i64 (j 10)))], [], (khp m c, N), 0, 0) (QS (FX0 c N) (kfl_rd_defaultLine_159 v2 v4 v5 m)) := by
  unfold kfl_rd_defaultLine_159
  show PP bb w D pm_133 (159, [(0, .ref 178), (1, .ref (tbr (j 1))), (2, .int (i32 v2)), (3, .int (i32 (j 3))), (4, .int (i32 v4)), (5, .int (i32 v5)), (6, .int (i32 (j 6))), (7, .int (i32 (j 7))), (8, .int (i32 (j 8))), (9, .int (i32 (j 9))), (10, .long (i64 (j 10)))], [], (khp (mO m [] []) c, N), 0, 0) _
  refine P_ld 160 (.ref 178) rfl (fun _ => rfl) ?_
  refine PK_gf 163 (.ref 6) rfl rfl kd_178 rfl rfl rfl ?_
  refine PK_gf 166 (.int (i32 (m.1 206))) rfl rfl kd_6 rfl rfl rfl ?_
  refine P_ld 168 (.int (i32 41)) rfl (fun _ => rfl) ?_
  refine P_icE 188 171 rfl rfl rfl (KCn_i hm 206 rfl) (l32 41 rfl) rfl (fun h9 => ?_) (fun h9 => ?_)
  · skip
    refine P_ld 173 (.int (i32 v5)) rfl (fun _ => rfl) ?_
    refine P_ld 175 (.int (i32 v4)) rfl (fun _ => rfl) ?_
    refine P_icF 188 178 rfl rfl rfl q5 q4 rfl (fun h10 => ?_) (fun h10 => ?_)
    · skip
      exact dg_rd_defaultLine_188 w c N D bb m hm (jk [(1, j 1), (2, v2), (3, j 3), (4, v4), (5, v5), (6, j 6), (7, j 7), (8, j 8), (9, j 9), (10, j 10)])
    · skip
      refine P_ld 179 (.ref 178) rfl (fun _ => rfl) ?_
      refine PK_gf 182 (.ref 6) rfl rfl kd_178 rfl rfl rfl ?_
      refine P_ld 184 (.int (i32 8)) rfl (fun _ => rfl) ?_
      refine P_ld 185 (.int (i32 v2)) rfl (fun _ => rfl) ?_
      refine P_cx0 188 51 [.ref 6, .int (i32 8), .int (i32 v2)] [] rfl (fun _ => rfl) rfl rfl (D_tx_fail w m c N D hm 8 v2 (l32 8 rfl) q2) (fun y x hm e => ⟨_, rfl, hm, Or.inr ⟨x, e, rfl⟩⟩) (fun y11 n13 => ?_)
      exact dg_rd_defaultLine_188 w c N D bb y11.2.2 n13 (jk [(1, j 1), (2, v2), (3, j 3), (4, v4), (5, v5), (6, j 6), (7, j 7), (8, j 8), (9, j 9), (10, j 10)])
  · skip
    exact dg_rd_defaultLine_188 w c N D bb m hm (jk [(1, j 1), (2, v2), (3, j 3), (4, v4), (5, v5), (6, j 6), (7, j 7), (8, j 8), (9, j 9), (10, j 10)])
def kfl_rd_defaultLine_144 (v1 : Int) (v2 : Int) (v3 : Int) (v4 : Int) (v5 : Int) (v7 : Int) (m : mR) : Option (Sum (Int × Int × Int × mR) (Sum (Int × mR) (Int × mR))) :=
  bnd (kf_rd_goesOnList m) fun y14 =>
  if y14.1 = 0 then
    some (.inl (cut (v5 + 1), y14.2.1, cut (v7 + 1), y14.2.2))
  else
    some (.inr (.inr (y14.1, y14.2.2)))
theorem dg_rd_defaultLine_144 (w : wX) (c : Nat → Option am_C) (N D : Nat) (bb : Nat) (v1 : Int) (v2 : Int) (v3 : Int) (v4 : Int) (v5 : Int) (v7 : Int) (q1 : Rt v1) (q2 : R32 v2) (q3 : R32 v3) (q4 : R32 v4) (q5 : R32 v5) (q7 : R32 v7) (m : mR) (hm : KCn m) (j : Nat → Int) (Q2 : Sum (Int × Int × Int × mR) (Sum (Int × mR) (Int × mR)) → ag_Re af_T → Prop) (H1 : ∀ s j, cs_rd_defaultLine_69 s → PP bb w D pm_133 (hd_rd_defaultLine_69 c N v1 v2 v3 v4 s j) (Q2 (.inl s))) (H2 : ∀ x j, cx_rd_defaultLine_69 x → PP bb w D pm_133 (ex_rd_defaultLine_69 c N v1 v2 v3 v4 x j) (Q2 (.inr x))) (H3 : ∀ x r, tx_rd_defaultLine_69 c N x r → Q2 (.inr x) r) : PP bb w D pm_133 (144, [(0, .ref 178), (1, .ref (tbr v1)), (2, .int (i32 v2)), (3, .int (i32 v3)), (4, .int (i32 v4)), (5, .int (i32 v5)), (6, .int (i32 (j 6))), (7, .int (i32 v7)), (8, .int (i32 (j 8))), (9, .int (i32 (j 9))), (10, .long (i64 (j 10)))], [], (khp m c, N), 0, 0) (QS Q2 (kfl_rd_defaultLine_144 v1 v2 v3 v4 v5 v7 m)) := by
  unfold kfl_rd_defaultLine_144
  show PP bb w D pm_133 (144, [(0, .ref 178), (1, .ref (tbr v1)), (2, .int (i32 v2)), (3, .int (i32 v3)), (4, .int (i32 v4)), (5, .int (i32 v5)), (6, .int (i32 (j 6))), (7, .int (i32 v7)), (8, .int (i32 (j 8))), (9, .int (i32 (j 9))), (10, .long (i64 (j 10)))], [], (khp (mO m [] []) c, N), 0, 0) _
  refine P_inc 147 [(5, .int (i32 (cut (v5 + 1)))), (0, .ref 178), (1, .ref (tbr v1)), (2, .int (i32 v2)), (3, .int (i32 v3)), (4, .int (i32 v4)), (6, .int (i32 (j 6))), (7, .int (i32 v7)), (8, .int (i32 (j 8))), (9, .int (i32 (j 9))), (10, .long (i64 (j 10)))] rfl rfl (by decide) rfl rfl ?_
  refine P_ld 148 (.ref 178) rfl (fun _ => rfl) ?_
  refine P_cx1 151 120 [.ref 178] [] rfl (fun _ => rfl) rfl rfl (D_rd_goesOnList w m c N D hm) (fun y x hm e => ⟨_, rfl, H3 _ _ ⟨x, e, hm, rfl⟩⟩) (fun y14 h15 n16 => ?_)
  refine P_sto 153 [(6, .int (i32 y14.2.1)), (5, .int (i32 (cut (v5 + 1)))), (0, .ref 178), (1, .ref (tbr v1)), (2, .int (i32 v2)), (3, .int (i32 v3)), (4, .int (i32 v4)), (7, .int (i32 v7)), (8, .int (i32 (j 8))), (9, .int (i32 (j 9))), (10, .long (i64 (j 10)))] rfl (fun _ => rfl) ?_
  refine P_inc 156 [(7, .int (i32 (cut (v7 + 1)))), (6, .int (i32 y14.2.1)), (5, .int (i32 (cut (v5 + 1)))), (0, .ref 178), (1, .ref (tbr v1)), (2, .int (i32 v2)), (3, .int (i32 v3)), (4, .int (i32 v4)), (8, .int (i32 (j 8))), (9, .int (i32 (j 9))), (10, .long (i64 (j 10)))] rfl rfl (by decide) rfl rfl ?_
  refine P_goto 69 rfl (fun _ => rfl) ?_
  refine P_some ?_
  refine P_lv (b := [(0, .ref 178), (1, .ref (tbr v1)), (2, .int (i32 v2)), (3, .int (i32 v3)), (4, .int (i32 v4)), (5, .int (i32 (cut (v5 + 1)))), (6, .int (i32 y14.2.1)), (7, .int (i32 (cut (v7 + 1)))), (8, .int (i32 (j 8))), (9, .int (i32 (j 9))), (10, .long (i64 (j 10)))]) rfl rfl ⟨rfl, rfl, rfl, rfl, rfl, rfl, rfl, rfl, rfl, rfl, rfl, trivial⟩ ?_
  exact H1 (cut (v5 + 1), y14.2.1, cut (v7 + 1), y14.2.2) (jk [(8, j 8), (9, j 9), (10, j 10)]) ⟨cut_r, h15, cut_r, n16⟩
def kfl_rd_defaultLine_120 (v1 : Int) (v2 : Int) (v3 : Int) (v4 : Int) (v5 : Int) (v7 : Int) (v8 : Int) (u0 : Int) (m : mR) : Option (Sum (Int × Int × Int × mR) (Sum (Int × mR) (Int × mR))) :=
  bnd (kf_rd_fittingNumber u0 m) fun y17 =>
  if y17.1 = 0 then
    if v8 = 0 then
      kfl_rd_defaultLine_144 v1 v2 v3 v4 v5 v7 y17.2.2
    else
      kfl_rd_defaultLine_144 v1 v2 v3 v4 v5 v7 (mO y17.2.2 [] [(84, upI (y17.2.2.2 84) (65536 * v1 + v5) y17.2.1)])
  else
    some (.inr (.inr (y17.1, y17.2.2)))
theorem dg_rd_defaultLine_120 (w : wX) (c : Nat → Option am_C) (N D : Nat) (bb : Nat) (v1 : Int) (v2 : Int) (v3 : Int) (v4 : Int) (v5 : Int) (v7 : Int) (v8 : Int) (u0 : Int) (q1 : Rt v1) (q2 : R32 v2) (q3 : R32 v3) (q4 : R32 v4) (q5 : R32 v5) (q7 : R32 v7) (q8 : R32 v8) (r0 : R32 u0) (m : mR) (hm : KCn m) (j : Nat → Int) (Q2 : Sum (Int × Int × Int × mR) (Sum (Int × mR) (Int × mR)) → ag_Re af_T → Prop) (H1 : ∀ s j, cs_rd_defaultLine_69 s → PP bb w D pm_133 (hd_rd_defaultLine_69 c N v1 v2 v3 v4 s j) (Q2 (.inl s))) (H2 : ∀ x j, cx_rd_defaultLine_69 x → PP bb w D pm_133 (ex_rd_defaultLine_69 c N v1 v2 v3 v4 x j) (Q2 (.inr x))) (H3 : ∀ x r, tx_rd_defaultLine_69 c N x r → Q2 (.inr x) r) : PP bb w D pm_133 (120, [(0, .ref 178), (1, .ref (tbr v1)), (2, .int (i32 v2)), (3, .int (i32 v3)), (4, .int (i32 v4)), (5, .int (i32 v5)), (6, .int (i32 (j 6))), (7, .int (i32 v7)), (8, .int (i32 v8)), (9, .int (i32 (j 9))), (10, .long (i64 (j 10)))], [.int (i32 u0)], (khp m c, N), 0, 0) (QS Q2 (kfl_rd_defaultLine_120 v1 v2 v3 v4 v5 v7 v8 u0 m)) := by
  unfold kfl_rd_defaultLine_120
  show PP bb w D pm_133 (120, [(0, .ref 178), (1, .ref (tbr v1)), (2, .int (i32 v2)), (3, .int (i32 v3)), (4, .int (i32 v4)), (5, .int (i32 v5)), (6, .int (i32 (j 6))), (7, .int (i32 v7)), (8, .int (i32 v8)), (9, .int (i32 (j 9))), (10, .long (i64 (j 10)))], [.int (i32 u0)], (khp (mO m [] []) c, N), 0, 0) _
  refine P_sto 122 [(9, .int (i32 u0)), (0, .ref 178), (1, .ref (tbr v1)), (2, .int (i32 v2)), (3, .int (i32 v3)), (4, .int (i32 v4)), (5, .int (i32 v5)), (6, .int (i32 (j 6))), (7, .int (i32 v7)), (8, .int (i32 v8)), (10, .long (i64 (j 10)))] rfl (fun _ => rfl) ?_
  refine P_ld 123 (.ref 178) rfl (fun _ => rfl) ?_
  refine P_ld 125 (.int (i32 u0)) rfl (fun _ => rfl) ?_
  refine P_cx2 128 115 [.ref 178, .int (i32 u0)] [] rfl (fun _ => rfl) rfl rfl (D_rd_fittingNumber w m c N D hm u0 r0) (fun y x hm e => ⟨_, rfl, H3 _ _ ⟨x, e, hm, rfl⟩⟩) (fun y17 h18 n19 => ?_)
  refine P_sto 130 [(10, .long (i64 y17.2.1)), (9, .int (i32 u0)), (0, .ref 178), (1, .ref (tbr v1)), (2, .int (i32 v2)), (3, .int (i32 v3)), (4, .int (i32 v4)), (5, .int (i32 v5)), (6, .int (i32 (j 6))), (7, .int (i32 v7)), (8, .int (i32 v8))] rfl (fun _ => rfl) ?_
  refine P_ld 132 (.int (i32 v8)) rfl (fun _ => rfl) ?_
  refine P_ifF 144 135 rfl rfl rfl q8 rfl (fun h20 => ?_) (fun h20 => ?_)
  · skip
    refine P_lv (b := [(0, .ref 178), (1, .ref (tbr v1)), (2, .int (i32 v2)), (3, .int (i32 v3)), (4, .int (i32 v4)), (5, .int (i32 v5)), (6, .int (i32 (j 6))), (7, .int (i32 v7)), (8, .int (i32 v8)), (9, .int (i32 u0)), (10, .long (i64 y17.2.1))]) rfl rfl ⟨rfl, rfl, rfl, rfl, rfl, rfl, rfl, rfl, rfl, rfl, rfl, trivial⟩ ?_
    exact dg_rd_defaultLine_144 w c N D bb v1 v2 v3 v4 v5 v7 q1 q2 q3 q4 q5 q7 y17.2.2 n19 (jk [(6, j 6), (8, v8), (9, u0), (10, y17.2.1)]) Q2 H1 H2 H3
  · skip
    refine P_ld 136 (.ref (tbr v1)) rfl (fun _ => rfl) ?_
    refine PK_gfr 139 rfl rfl q1.1 q1.2 rfl ?_
    refine P_ld 141 (.int (i32 v5)) rfl (fun _ => rfl) ?_
    refine P_ld 143 (.long (i64 y17.2.1)) rfl (fun _ => rfl) ?_
    refine PK_lastt2 (a' := [(84, upI (y17.2.2.2 84) (65536 * v1 + v5) y17.2.1)]) 144 5 (y17.2.2.2 84) rfl rfl rfl q1 q5 rfl rfl ?_
    refine P_lv (b := [(0, .ref 178), (1, .ref (tbr v1)), (2, .int (i32 v2)), (3, .int (i32 v3)), (4, .int (i32 v4)), (5, .int (i32 v5)), (6, .int (i32 (j 6))), (7, .int (i32 v7)), (8, .int (i32 v8)), (9, .int (i32 u0)), (10, .long (i64 y17.2.1))]) rfl rfl ⟨rfl, rfl, rfl, rfl, rfl, rfl, rfl, rfl, rfl, rfl, rfl, trivial⟩ ?_
    exact dg_rd_defaultLine_144 w c N D bb v1 v2 v3 v4 v5 v7 q1 q2 q3 q4 q5 q7 (mO y17.2.2 [] [(84, upI (y17.2.2.2 84) (65536 * v1 + v5) y17.2.1)]) (KCn_mO n19 rfl rfl trivial ⟨(kE_ul (KCn_a n19 84) rfl h18), trivial⟩) (jk [(6, j 6), (8, v8), (9, u0), (10, y17.2.1)]) Q2 H1 H2 H3
def kfl_rd_defaultLine_94 (v1 : Int) (v2 : Int) (v3 : Int) (v4 : Int) (v5 : Int) (v7 : Int) (u0 : Int) (m : mR) : Option (Sum (Int × Int × Int × mR) (Sum (Int × mR) (Int × mR))) :=
  if u0 = 0 then
    kfl_rd_defaultLine_120 v1 v2 v3 v4 v5 v7 u0 64 m
  else
    kfl_rd_defaultLine_120 v1 v2 v3 v4 v5 v7 u0 ((m.2 40) (cut ((cut (v3 * 4)) + v5))) m
theorem dg_rd_defaultLine_94 (w : wX) (c : Nat → Option am_C) (N D : Nat) (bb : Nat) (v1 : Int) (v2 : Int) (v3 : Int) (v4 : Int) (v5 : Int) (v7 : Int) (u0 : Int) (q1 : Rt v1) (q2 : R32 v2) (q3 : R32 v3) (q4 : R32 v4) (q5 : R32 v5) (q7 : R32 v7) (r0 : R32 u0) (m : mR) (hm : KCn m) (j : Nat → Int) (Q2 : Sum (Int × Int × Int × mR) (Sum (Int × mR) (Int × mR)) → ag_Re af_T → Prop) (H1 : ∀ s j, cs_rd_defaultLine_69 s → PP bb w D pm_133 (hd_rd_defaultLine_69 c N v1 v2 v3 v4 s j) (Q2 (.inl s))) (H2 : ∀ x j, cx_rd_defaultLine_69 x → PP bb w D pm_133 (ex_rd_defaultLine_69 c N v1 v2 v3 v4 x j) (Q2 (.inr x))) (H3 : ∀ x r, tx_rd_defaultLine_69 c N x r → Q2 (.inr x) r) : PP bb w D pm_133 (94, [(0, .ref 178), (1, .ref (tbr v1)), (2, .int (i32 v2)), (3, .int (i32 v3)), (4, .int (i32 v4)), (5, .int (i32 v5)), (6, .int (i32 (j 6))), (7, .int (i32 v7)), (8, .int (i32 (j 8))), (9, .int (i32 (j 9))), (10, .long (i64 (j 10)))], [.int (i32 u0)], (khp m c, N), 0, 0) (QS Q2 (kfl_rd_defaultLine_94 v1 v2 v3 v4 v5 v7 u0 m)) := by
  unfold kfl_rd_defaultLine_94
  show PP bb w D pm_133 (94, [(0, .ref 178), (1, .ref (tbr v1)), (2, .int (i32 v2)), (3, .int (i32 v3)), (4, .int (i32 v4)), (5, .int (i32 v5)), (6, .int (i32 (j 6))), (7, .int (i32 v7)), (8, .int (i32 (j 8))), (9, .int (i32 (j 9))), (10, .long (i64 (j 10)))], [.int (i32 u0)], (khp (mO m [] []) c, N), 0, 0) _
  refine P_sto 96 [(8, .int (i32 u0)), (0, .ref 178), (1, .ref (tbr v1)), (2, .int (i32 v2)), (3, .int (i32 v3)), (4, .int (i32 v4)), (5, .int (i32 v5)), (6, .int (i32 (j 6))), (7, .int (i32 v7)), (9, .int (i32 (j 9))), (10, .long (i64 (j 10)))] rfl (fun _ => rfl) ?_
  refine P_ld 98 (.int (i32 u0)) rfl (fun _ => rfl) ?_
  refine P_ifF 118 101 rfl rfl rfl r0 rfl (fun h21 => ?_) (fun h21 => ?_)
  · skip
    refine P_ld 120 (.int (i32 64)) rfl (fun _ => rfl) ?_
    refine P_lv (b := [(0, .ref 178), (1, .ref (tbr v1)), (2, .int (i32 v2)), (3, .int (i32 v3)), (4, .int (i32 v4)), (5, .int (i32 v5)), (6, .int (i32 (j 6))), (7, .int (i32 v7)), (8, .int (i32 u0)), (9, .int (i32 (j 9))), (10, .long (i64 (j 10)))]) rfl rfl ⟨rfl, rfl, rfl, rfl, rfl, rfl, rfl, rfl, rfl, rfl, rfl, trivial⟩ ?_
    exact dg_rd_defaultLine_120 w c N D bb v1 v2 v3 v4 v5 v7 u0 64 q1 q2 q3 q4 q5 q7 r0 (l32 64 rfl) m hm (jk [(6, j 6), (9, j 9), (10, j 10)]) Q2 H1 H2 H3
  · skip
    refine P_ld 102 (.ref 178) rfl (fun _ => rfl) ?_
    refine PK_gf 105 (.ref 45) rfl rfl kd_178 rfl rfl rfl ?_
    refine PK_gf 108 (.ref 47) rfl rfl kd_45 rfl rfl rfl ?_
    refine P_ld 109 (.int (i32 v3)) rfl (fun _ => rfl) ?_
    refine P_ld 110 (.int (i32 4)) rfl (fun _ => rfl) ?_
    refine P_op 111 (cut (v3 * 4)) _ rfl (fun _ => rfl) o_mul ?_
    refine P_ld 113 (.int (i32 v5)) rfl (fun _ => rfl) ?_
    refine P_op 114 (cut ((cut (v3 * 4)) + v5)) _ rfl (fun _ => rfl) o_add ?_
    refine PK_iald2 115 40 (m.2 40) rfl rfl rfl cut_r rfl ?_
    refine P_goto 120 rfl (fun _ => rfl) ?_
    refine P_lv (b := [(0, .ref 178), (1, .ref (tbr v1)), (2, .int (i32 v2)), (3, .int (i32 v3)), (4, .int (i32 v4)), (5, .int (i32 v5)), (6, .int (i32 (j 6))), (7, .int (i32 v7)), (8, .int (i32 u0)), (9, .int (i32 (j 9))), (10, .long (i64 (j 10)))]) rfl rfl ⟨rfl, rfl, rfl, rfl, rfl, rfl, rfl, rfl, rfl, rfl, rfl, trivial⟩ ?_
    exact dg_rd_defaultLine_120 w c N D bb v1 v2 v3 v4 v5 v7 u0 ((m.2 40) (cut ((cut (v3 * 4)) + v5))) q1 q2 q3 q4 q5 q7 r0 (kE_i (KCn_a hm 40) rfl _) m hm (jk [(6, j 6), (9, j 9), (10, j 10)]) Q2 H1 H2 H3
def kfb_rd_defaultLine_69 (v1 : Int) (v2 : Int) (v3 : Int) (v4 : Int) (s : Int × Int × Int × mR) : Option (Sum (Int × Int × Int × mR) (Sum (Int × mR) (Int × mR))) :=
  if (4000 : Int) < s.2.2.1 then
    some (.inr (.inl (s.1, s.2.2.2)))
  else
    if s.2.1 = 0 then
      some (.inr (.inl (s.1, s.2.2.2)))
    else
      if v4 ≤ s.1 then
        kfl_rd_defaultLine_94 v1 v2 v3 v4 s.1 s.2.2.1 0 s.2.2.2
      else
        kfl_rd_defaultLine_94 v1 v2 v3 v4 s.1 s.2.2.1 1 s.2.2.2
theorem dh_rd_defaultLine_69 (w : wX) (c : Nat → Option am_C) (N D : Nat) (v1 : Int) (v2 : Int) (v3 : Int) (v4 : Int) (q1 : Rt v1) (q2 : R32 v2) (q3 : R32 v3) (q4 : R32 v4) (bb : Nat) (Q2 : Sum (Int × Int × Int × mR) (Sum (Int × mR) (Int × mR)) → ag_Re af_T → Prop) (H1 : ∀ s j, cs_rd_defaultLine_69 s → PP bb w D pm_133 (hd_rd_defaultLine_69 c N v1 v2 v3 v4 s j) (Q2 (.inl s))) (H2 : ∀ x j, cx_rd_defaultLine_69 x → PP bb w D pm_133 (ex_rd_defaultLine_69 c N v1 v2 v3 v4 x j) (Q2 (.inr x))) (H3 : ∀ x r, tx_rd_defaultLine_69 c N x r → Q2 (.inr x) r) (s : Int × Int × Int × mR) (j : Nat → Int) (hs : cs_rd_defaultLine_69 s) : PP (bb + 1) w D pm_133 (hd_rd_defaultLine_69 c N v1 v2 v3 v4 s j) (QS Q2 (kfb_rd_defaultLine_69 v1 v2 v3 v4 s)) := by
  obtain ⟨g5, g6, g7, gm⟩ := hs
  unfold kfb_rd_defaultLine_69
  show PP (bb + 1) w D pm_133 (69, [(0, .ref 178), (1, .ref (tbr v1)), (2, .int (i32 v2)), (3, .int (i32 v3)), (4, .int (i32 v4)), (5, .int (i32 s.1)), (6, .int (i32 s.2.1)), (7, .int (i32 s.2.2.1)), (8, .int (i32 (j 8))), (9, .int (i32 (j 9))), (10, .long (i64 (j 10)))], [], (khp (mO s.2.2.2 [] []) c, N), 0, 0) _
  refine P1_ld 71 (.int (i32 s.2.2.1)) rfl (fun _ => rfl) ?_
  refine P_ld 74 (.int (i32 4000)) rfl (fun _ => rfl) ?_
  refine P_icF 159 77 rfl rfl rfl g7 (l32 4000 rfl) rfl (fun h24 => ?_) (fun h24 => ?_)
  · skip
    refine P_some ?_
    exact H2 (.inl (s.1, s.2.2.2)) (jk [(1, v1), (3, v3), (6, s.2.1), (7, s.2.2.1), (8, j 8), (9, j 9), (10, j 10)]) ⟨g5, gm⟩
  · skip
    refine P_ld 79 (.int (i32 s.2.1)) rfl (fun _ => rfl) ?_
    refine P_ifF 159 82 rfl rfl rfl g6 rfl (fun h25 => ?_) (fun h25 => ?_)
    · skip
      refine P_some ?_
      exact H2 (.inl (s.1, s.2.2.2)) (jk [(1, v1), (3, v3), (6, s.2.1), (7, s.2.2.1), (8, j 8), (9, j 9), (10, j 10)]) ⟨g5, gm⟩
    · skip
      refine P_ld 84 (.int (i32 s.1)) rfl (fun _ => rfl) ?_
      refine P_ld 86 (.int (i32 v4)) rfl (fun _ => rfl) ?_
      refine P_icF 93 89 rfl rfl rfl g5 q4 rfl (fun h26 => ?_) (fun h26 => ?_)
      · skip
        refine P_ld 94 (.int (i32 0)) rfl (fun _ => rfl) ?_
        exact dg_rd_defaultLine_94 w c N D bb v1 v2 v3 v4 s.1 s.2.2.1 0 q1 q2 q3 q4 g5 g7 (l32 0 rfl) s.2.2.2 gm (jk [(6, s.2.1), (8, j 8), (9, j 9), (10, j 10)]) Q2 H1 H2 H3
      · skip
        refine P_ld 90 (.int (i32 1)) rfl (fun _ => rfl) ?_
        refine P_goto 94 rfl (fun _ => rfl) ?_
        exact dg_rd_defaultLine_94 w c N D bb v1 v2 v3 v4 s.1 s.2.2.1 1 q1 q2 q3 q4 g5 g7 (l32 1 rfl) s.2.2.2 gm (jk [(6, s.2.1), (8, j 8), (9, j 9), (10, j 10)]) Q2 H1 H2 H3
def kfl_rd_defaultLine_64 (v1 : Int) (v2 : Int) (v3 : Int) (v4 : Int) (v5 : Int) (u0 : Int) (m : mR) : Option (Int × Int × mR) :=
  bnd (whl (kfb_rd_defaultLine_69 v1 v2 v3 v4) (v5, u0, 0, m)) (sel
    (fun e27 : Int × mR =>
      kfl_rd_defaultLine_159 v2 v4 e27.1 e27.2)
    (fun e31 : Int × mR =>
      some (e31.1, 0, e31.2)))
theorem dg_rd_defaultLine_64 (w : wX) (c : Nat → Option am_C) (N D : Nat) (bb : Nat) (v1 : Int) (v2 : Int) (v3 : Int) (v4 : Int) (v5 : Int) (u0 : Int) (q1 : Rt v1) (q2 : R32 v2) (q3 : R32 v3) (q4 : R32 v4) (q5 : R32 v5) (r0 : R32 u0) (m : mR) (hm : KCn m) (j : Nat → Int) : PP bb w D pm_133 (64, [(0, .ref 178), (1, .ref (tbr v1)), (2, .int (i32 v2)), (3, .int (i32 v3)), (4, .int (i32 v4)), (5, .int (i32 v5))], [.int (i32 u0)], (khp m c, N), 0, 0) (QS (FX0 c N) (kfl_rd_defaultLine_64 v1 v2 v3 v4 v5 u0 m)) := by
  unfold kfl_rd_defaultLine_64
  show PP bb w D pm_133 (64, [(0, .ref 178), (1, .ref (tbr v1)), (2, .int (i32 v2)), (3, .int (i32 v3)), (4, .int (i32 v4)), (5, .int (i32 v5))], [.int (i32 u0)], (khp (mO m [] []) c, N), 0, 0) _
  refine P_sto 66 [(6, .int (i32 u0)), (0, .ref 178), (1, .ref (tbr v1)), (2, .int (i32 v2)), (3, .int (i32 v3)), (4, .int (i32 v4)), (5, .int (i32 v5))] rfl (fun _ => rfl) ?_
  refine P_ld 67 (.int (i32 0)) rfl (fun _ => rfl) ?_
  refine P_sto 69 [(7, .int (i32 0)), (6, .int (i32 u0)), (0, .ref 178), (1, .ref (tbr v1)), (2, .int (i32 v2)), (3, .int (i32 v3)), (4, .int (i32 v4)), (5, .int (i32 v5))] rfl (fun _ => rfl) ?_
  refine P_lv (b := [(0, .ref 178), (1, .ref (tbr v1)), (2, .int (i32 v2)), (3, .int (i32 v3)), (4, .int (i32 v4)), (5, .int (i32 v5)), (6, .int (i32 u0)), (7, .int (i32 0)), (8, .int (i32 0)), (9, .int (i32 0)), (10, .long (i64 0))]) rfl rfl ⟨rfl, rfl, rfl, rfl, rfl, rfl, rfl, rfl, trivial⟩ ?_
  refine P_bnd ?_
  refine P_whlx (TX := tx_rd_defaultLine_69 c N) (fun bb Q2 H1 H2 H3 s9 j9 hs9 => dh_rd_defaultLine_69 w c N D v1 v2 v3 v4 q1 q2 q3 q4 bb Q2 H1 H2 H3 s9 j9 hs9) bb (fun x r hr => ?_) (fun x0 j hx0 => ?_) (v5, u0, 0, m) (jk []) ⟨q5, r0, (l32 0 rfl), hm⟩
  · skip
    cases x with
    | inl e => exact False.elim hr
    | inr x =>
      obtain ⟨x9, e9, k9, rfl⟩ := hr
      exact ⟨_, rfl, k9, Or.inr ⟨x9, e9, rfl⟩⟩
  cases x0 with
  | inl e27 =>
    have q28 := hx0
    obtain ⟨q29, q30⟩ := q28
    show PP bb w D pm_133 (159, [(0, .ref 178), (1, .ref (tbr (j 1))), (2, .int (i32 v2)), (3, .int (i32 (j 3))), (4, .int (i32 v4)), (5, .int (i32 e27.1)), (6, .int (i32 (j 6))), (7, .int (i32 (j 7))), (8, .int (i32 (j 8))), (9, .int (i32 (j 9))), (10, .long (i64 (j 10)))], [], (khp (mO e27.2 [] []) c, N), 0, 0) (QS _ (kfl_rd_defaultLine_159 v2 v4 e27.1 e27.2))
    exact dg_rd_defaultLine_159 w c N D bb v2 v4 e27.1 q2 q4 q29 e27.2 q30 (jk [(1, j 1), (3, j 3), (6, j 6), (7, j 7), (8, j 8), (9, j 9), (10, j 10)])
  | inr e31 =>
    have q32 := hx0
    have q32 := q32
    exact False.elim q32
def kf_rd_defaultLine (v1 : Int) (m : mR) : Option (Int × Int × mR) :=
  bnd (kf_tx_known 309 m) fun y33 =>
  if y33.1 = 0 then
    bnd (kf_tx_expect 40 (mO y33.2.2 [] [(74, upI (y33.2.2.2 74) v1 y33.2.1)])) fun y36 =>
    if y36.1 = 0 then
      if y36.2.2.1 206 = 41 then
        kfl_rd_defaultLine_64 v1 (m.1 207) y33.2.1 ((y36.2.2.2 39) y33.2.1) 0 0 y36.2.2
      else
        kfl_rd_defaultLine_64 v1 (m.1 207) y33.2.1 ((y36.2.2.2 39) y33.2.1) 0 1 y36.2.2
    else
      some (y36.1, 0, y36.2.2)
  else
    some (y33.1, 0, y33.2.2)
theorem D_rd_defaultLine (w : wX) (m : mR) (c : Nat → Option am_C) (N D : Nat) (hm : KCn m) (v1 : Int) (q1 : Rt v1) : PC w D 133 [.ref 178, .ref (tbr v1)] (khp m c, N) (QS (FX0 c N) (kf_rd_defaultLine v1 m)) := by
  refine Pc_of (fun D bb => ?_) D
  unfold kf_rd_defaultLine
  show PP bb w D pm_133 (0, [(0, .ref 178), (1, .ref (tbr v1))], [], (khp (mO m [] []) c, N), 0, 0) _
  refine P_ld 1 (.ref 178) rfl (fun _ => rfl) ?_
  refine PK_gf 4 (.ref 6) rfl rfl kd_178 rfl rfl rfl ?_
  refine PK_gf 7 (.int (i32 (m.1 207))) rfl rfl kd_6 rfl rfl rfl ?_
  refine P_sto 8 [(2, .int (i32 (m.1 207))), (0, .ref 178), (1, .ref (tbr v1))] rfl (fun _ => rfl) ?_
  refine P_ld 9 (.ref 178) rfl (fun _ => rfl) ?_
  refine PK_gf 12 (.ref 6) rfl rfl kd_178 rfl rfl rfl ?_
  refine P_ld 15 (.int (i32 309)) rfl (fun _ => rfl) ?_
  refine P_cx1 18 83 [.ref 6, .int (i32 309)] [] rfl (fun _ => rfl) rfl rfl (D_tx_known w m c N D hm 309 (l32 309 rfl)) (fun y x hm e => ⟨_, rfl, hm, Or.inr ⟨x, e, rfl⟩⟩) (fun y33 h34 n35 => ?_)
  refine P_sto 19 [(3, .int (i32 y33.2.1)), (2, .int (i32 (m.1 207))), (0, .ref 178), (1, .ref (tbr v1))] rfl (fun _ => rfl) ?_
  refine P_ld 20 (.ref (tbr v1)) rfl (fun _ => rfl) ?_
  refine P_ld 21 (.int (i32 y33.2.1)) rfl (fun _ => rfl) ?_
  refine PK_pfi (a' := [(74, upI (y33.2.2.2 74) v1 y33.2.1)]) 24 74 (y33.2.2.2 74) rfl rfl rfl q1.1 q1.2 rfl rfl rfl ?_
  refine P_ld 25 (.ref 178) rfl (fun _ => rfl) ?_
  refine PK_gf 28 (.ref 6) rfl rfl kd_178 rfl rfl rfl ?_
  refine P_ld 30 (.int (i32 40)) rfl (fun _ => rfl) ?_
  refine P_cx0 33 78 [.ref 6, .int (i32 40)] [] rfl (fun _ => rfl) rfl rfl (D_tx_expect w (mO y33.2.2 [] [(74, upI (y33.2.2.2 74) v1 y33.2.1)]) c N D (KCn_mO n35 rfl rfl trivial ⟨(kE_ui (KCn_a n35 74) rfl h34), trivial⟩) 40 (l32 40 rfl)) (fun y x hm e => ⟨_, rfl, hm, Or.inr ⟨x, e, rfl⟩⟩) (fun y36 n38 => ?_)
  refine P_ld 34 (.ref 178) rfl (fun _ => rfl) ?_
  refine PK_gf 37 (.ref 45) rfl rfl kd_178 rfl rfl rfl ?_
  refine PK_gf 40 (.ref 46) rfl rfl kd_45 rfl rfl rfl ?_
  refine P_ld 41 (.int (i32 y33.2.1)) rfl (fun _ => rfl) ?_
  refine PK_iald2 42 39 (y36.2.2.2 39) rfl rfl rfl h34 rfl ?_
  refine P_sto 44 [(4, .int (i32 ((y36.2.2.2 39) y33.2.1))), (3, .int (i32 y33.2.1)), (2, .int (i32 (m.1 207))), (0, .ref 178), (1, .ref (tbr v1))] rfl (fun _ => rfl) ?_
  refine P_ld 45 (.int (i32 0)) rfl (fun _ => rfl) ?_
  refine P_sto 47 [(5, .int (i32 0)), (4, .int (i32 ((y36.2.2.2 39) y33.2.1))), (3, .int (i32 y33.2.1)), (2, .int (i32 (m.1 207))), (0, .ref 178), (1, .ref (tbr v1))] rfl (fun _ => rfl) ?_
  refine P_ld 48 (.ref 178) rfl (fun _ => rfl) ?_
  refine PK_gf 51 (.ref 6) rfl rfl kd_178 rfl rfl rfl ?_
  refine PK_gf 54 (.int (i32 (y36.2.2.1 206))) rfl rfl kd_6 rfl rfl rfl ?_
  refine P_ld 56 (.int (i32 41)) rfl (fun _ => rfl) ?_
  refine P_icF 63 59 rfl rfl rfl (KCn_i n38 206 rfl) (l32 41 rfl) rfl (fun h39 => ?_) (fun h39 => ?_)
  · skip
    refine P_ld 64 (.int (i32 0)) rfl (fun _ => rfl) ?_
    refine P_lv (b := [(0, .ref 178), (1, .ref (tbr v1)), (2, .int (i32 (m.1 207))), (3, .int (i32 y33.2.1)), (4, .int (i32 ((y36.2.2.2 39) y33.2.1))), (5, .int (i32 0))]) rfl rfl ⟨rfl, rfl, rfl, rfl, rfl, rfl, trivial⟩ ?_
    exact dg_rd_defaultLine_64 w c N D bb v1 (m.1 207) y33.2.1 ((y36.2.2.2 39) y33.2.1) 0 0 q1 (KCn_i hm 207 rfl) h34 (kE_i (KCn_a n38 39) rfl _) (l32 0 rfl) (l32 0 rfl) y36.2.2 n38 (jk [])
  · skip
    refine P_ld 60 (.int (i32 1)) rfl (fun _ => rfl) ?_
    refine P_goto 64 rfl (fun _ => rfl) ?_
    refine P_lv (b := [(0, .ref 178), (1, .ref (tbr v1)), (2, .int (i32 (m.1 207))), (3, .int (i32 y33.2.1)), (4, .int (i32 ((y36.2.2.2 39) y33.2.1))), (5, .int (i32 0))]) rfl rfl ⟨rfl, rfl, rfl, rfl, rfl, rfl, trivial⟩ ?_
    exact dg_rd_defaultLine_64 w c N D bb v1 (m.1 207) y33.2.1 ((y36.2.2.2 39) y33.2.1) 0 1 q1 (KCn_i hm 207 rfl) h34 (kE_i (KCn_a n38 39) rfl _) (l32 0 rfl) (l32 1 rfl) y36.2.2 n38 (jk [])
def cs_tb_isHashed_2 (s : Int) : Prop := R32 s
def cx_tb_isHashed_2 : (Sum (Unit) (Unit)) → Prop := (sel (fun (e : Unit) => True) (fun (e : Unit) => True))
def hd_tb_isHashed_2 (c : Nat → Option am_C) (N : Nat) (v0 : Int) (m : mR) (s : Int) (j : Nat → Int) : ag_St af_T := (2, [(0, .ref (tbr v0)), (1, .int (i32 s))], [], (khp m c, N), 0, 0)
def ex_tb_isHashed_2 (c : Nat → Option am_C) (N : Nat) (v0 : Int) (m : mR) : (Sum (Unit) (Unit)) → (Nat → Int) → ag_St af_T := (sel (fun (e : Unit) (j : Nat → Int) => ((22, [(0, .ref (tbr (j 0))), (1, .int (i32 (j 1)))], [], (khp m c, N), 0, 0) : ag_St af_T)) (fun (e : Unit) (j : Nat → Int) => ((30, [(0, .ref (tbr (j 0))), (1, .int (i32 (j 1)))], [], (khp m c, N), 0, 0) : ag_St af_T)))
def kfb_tb_isHashed_2 (v0 : Int) (m : mR) (s : Int) : Option (Sum (Int) (Sum (Unit) (Unit))) :=
  if (m.2 72) v0 ≤ s then
    some (.inr (.inr ()))
  else
    if (m.2 81) (65536 * v0 + s) = 312 then
      some (.inl (cut (s + 1)))
    else
      some (.inr (.inl ()))
theorem dh_tb_isHashed_2 (w : wX) (c : Nat → Option am_C) (N D : Nat) (v0 : Int) (q0 : Rt v0) (m : mR) (hm : KCn m) (bb : Nat) (Q2 : Sum (Int) (Sum (Unit) (Unit)) → ag_Re af_T → Prop) (H1 : ∀ s j, cs_tb_isHashed_2 s → PP bb w D pm_135 (hd_tb_isHashed_2 c N v0 m s j) (Q2 (.inl s))) (H2 : ∀ x j, cx_tb_isHashed_2 x → PP bb w D pm_135 (ex_tb_isHashed_2 c N v0 m x j) (Q2 (.inr x))) (s : Int) (j : Nat → Int) (hs : cs_tb_isHashed_2 s) : PP (bb + 1) w D pm_135 (hd_tb_isHashed_2 c N v0 m s j) (QS Q2 (kfb_tb_isHashed_2 v0 m s)) := by
  have g1 := hs
  unfold kfb_tb_isHashed_2
  show PP (bb + 1) w D pm_135 (2, [(0, .ref (tbr v0)), (1, .int (i32 s))], [], (khp (mO m [] []) c, N), 0, 0) _
  refine P1_ld 3 (.int (i32 s)) rfl (fun _ => rfl) ?_
  refine P_ld 4 (.ref (tbr v0)) rfl (fun _ => rfl) ?_
  refine PK_gfi 7 72 (m.2 72) rfl rfl q0.1 q0.2 rfl rfl ?_
  refine P_icF 30 10 rfl rfl rfl g1 (kE_i (KCn_a hm 72) rfl _) rfl (fun h1 => ?_) (fun h1 => ?_)
  · skip
    refine P_some ?_
    exact H2 (.inr ()) (jk [(0, v0), (1, s)]) trivial
  · skip
    refine P_ld 11 (.ref (tbr v0)) rfl (fun _ => rfl) ?_
    refine PK_gfr 14 rfl rfl q0.1 q0.2 rfl ?_
    refine P_ld 15 (.int (i32 s)) rfl (fun _ => rfl) ?_
    refine PK_ialt2 16 2 (m.2 81) rfl rfl rfl q0 g1 rfl ?_
    refine P_ld 19 (.int (i32 312)) rfl (fun _ => rfl) ?_
    refine P_icF 24 22 rfl rfl rfl (kE_i (KCn_a hm 81) rfl _) (l32 312 rfl) rfl (fun h2 => ?_) (fun h2 => ?_)
    · skip
      refine P_inc 27 [(1, .int (i32 (cut (s + 1)))), (0, .ref (tbr v0))] rfl rfl (by decide) rfl rfl ?_
      refine P_goto 2 rfl (fun _ => rfl) ?_
      refine P_some ?_
      refine P_lv (b := [(0, .ref (tbr v0)), (1, .int (i32 (cut (s + 1))))]) rfl rfl ⟨rfl, rfl, trivial⟩ ?_
      exact H1 (cut (s + 1)) (jk []) cut_r
    · skip
      refine P_some ?_
      exact H2 (.inl ()) (jk [(0, v0), (1, s)]) trivial
def kf_tb_isHashed (v0 : Int) (m : mR) : Option Int :=
  bnd (whl (kfb_tb_isHashed_2 v0 m) 0) (sel
    (fun e3 : Unit =>
      some 0)
    (fun e5 : Unit =>
      some 1))
theorem D_tb_isHashed (w : wX) (m : mR) (c : Nat → Option am_C) (N D : Nat) (hm : KCn m) (v0 : Int) (q0 : Rt v0) : PC w D 135 [.ref (tbr v0)] (khp m c, N) (QS (FP1 (khp m c, N)) (kf_tb_isHashed v0 m)) := by
  refine Pc_of (fun D bb => ?_) D
  unfold kf_tb_isHashed
  show PP bb w D pm_135 (0, [(0, .ref (tbr v0))], [], (khp (mO m [] []) c, N), 0, 0) _
  refine P_ld 1 (.int (i32 0)) rfl (fun _ => rfl) ?_
  refine P_sto 2 [(1, .int (i32 0)), (0, .ref (tbr v0))] rfl (fun _ => rfl) ?_
  refine P_lv (b := [(0, .ref (tbr v0)), (1, .int (i32 0))]) rfl rfl ⟨rfl, rfl, trivial⟩ ?_
  refine P_bnd ?_
  refine P_whl (fun bb Q2 H1 H2 s9 j9 hs9 => dh_tb_isHashed_2 w c N D v0 q0 m hm bb Q2 H1 H2 s9 j9 hs9) bb (fun x0 j hx0 => ?_) 0 (jk []) (l32 0 rfl)
  cases x0 with
  | inl e3 =>
    have q4 := hx0
    show PP bb w D pm_135 (22, [(0, .ref (tbr (j 0))), (1, .int (i32 (j 1)))], [], (khp (mO m [] []) c, N), 0, 0) (QS _ (some 0))
    refine P_ld 23 (.int (i32 0)) rfl (fun _ => rfl) ?_
    exact P_rp1 rfl (l32 0 rfl)
  | inr e5 =>
    have q6 := hx0
    show PP bb w D pm_135 (30, [(0, .ref (tbr (j 0))), (1, .int (i32 (j 1)))], [], (khp (mO m [] []) c, N), 0, 0) (QS _ (some 1))
    refine P_ld 31 (.int (i32 1)) rfl (fun _ => rfl) ?_
    exact P_rp1 rfl (l32 1 rfl)
def kfl_rd_roomLine_171 (m : mR) : Option (Int × Int × mR) :=
  bnd (kf_tx_expect 59 m) fun y1 =>
  if y1.1 = 0 then
    some (0, 0, y1.2.2)
  else
    some (y1.1, 0, y1.2.2)
theorem dg_rd_roomLine_171 (w : wX) (c : Nat → Option am_C) (N D : Nat) (bb : Nat) (m : mR) (hm : KCn m) (j : Nat → Int) : PP bb w D pm_134 (171, [(0, .ref 178), (1, .ref (tbr (j 1))), (2, .int (i32 (j 2))), (3, .int (i32 (j 3))), (4, .int (i32 (j 4))), (5, .int (i32 (j 5)))], [], (khp m c, N), 0, 0) (QS (FX0 c N) (kfl_rd_roomLine_171 m)) := by
  unfold kfl_rd_roomLine_171
  show PP bb w D pm_134 (171, [(0, .ref 178), (1, .ref (tbr (j 1))), (2, .int (i32 (j 2))), (3, .int (i32 (j 3))), (4, .int (i32 (j 4))), (5, .int (i32 (j 5)))], [], (khp (mO m [] []) c, N), 0, 0) _
  refine P_ld 172 (.ref 178) rfl (fun _ => rfl) ?_
  refine PK_gf 175 (.ref 6) rfl rfl kd_178 rfl rfl rfl ?_
  refine P_ld 177 (.int (i32 59)) rfl (fun _ => rfl) ?_
  refine P_cx0 180 78 [.ref 6, .int (i32 59)] [] rfl (fun _ => rfl) rfl rfl (D_tx_expect w m c N D hm 59 (l32 59 rfl)) (fun y x hm e => ⟨_, rfl, hm, Or.inr ⟨x, e, rfl⟩⟩) (fun y1 n3 => ?_)
  exact P_rx0 rfl rfl n3
def kfl_rd_roomLine_114 (v1 : Int) (v2 : Int) (u0 : Int) (u2 : Int) (u3 : Int) (m : mR) : Option (Int × Int × mR) :=
  bnd (kf_tx_within u2 u3 m) fun y4 =>
  if y4.1 = 0 then
    if v2 = 0 then
      kfl_rd_roomLine_171 (mO y4.2.2 [] [(75, upI (y4.2.2.2 75) u0 y4.2.1)])
    else
      bnd (kf_tx_expect 317 (mO y4.2.2 [] [(75, upI (y4.2.2.2 75) u0 y4.2.1)])) fun y8 =>
      if y8.1 = 0 then
        bnd (kf_tx_within 1 4 y8.2.2) fun y11 =>
        if y11.1 = 0 then
          bnd (kf_tx_expect 318 (mO y11.2.2 [] [(76, upI (y11.2.2.2 76) v1 y11.2.1)])) fun y14 =>
          if y14.1 = 0 then
            bnd (kf_tx_within 0 8 y14.2.2) fun y17 =>
            if y17.1 = 0 then
              kfl_rd_roomLine_171 (mO y17.2.2 [] [(77, upI (y17.2.2.2 77) v1 y17.2.1)])
            else
              some (y17.1, 0, y17.2.2)
          else
            some (y14.1, 0, y14.2.2)
        else
          some (y11.1, 0, y11.2.2)
      else
        some (y8.1, 0, y8.2.2)
  else
    some (y4.1, 0, y4.2.2)
theorem dg_rd_roomLine_114 (w : wX) (c : Nat → Option am_C) (N D : Nat) (bb : Nat) (v1 : Int) (v2 : Int) (u0 : Int) (u2 : Int) (u3 : Int) (q1 : Rt v1) (q2 : R32 v2) (r0 : Rt u0) (r2 : R32 u2) (r3 : R32 u3) (m : mR) (hm : KCn m) (j : Nat → Int) : PP bb w D pm_134 (114, [(0, .ref 178), (1, .ref (tbr v1)), (2, .int (i32 v2)), (3, .int (i32 (j 3))), (4, .int (i32 (j 4))), (5, .int (i32 (j 5)))], [.int (i32 u3), .int (i32 u2), .ref 6, .ref (tbr u0)], (khp m c, N), 0, 0) (QS (FX0 c N) (kfl_rd_roomLine_114 v1 v2 u0 u2 u3 m)) := by
  unfold kfl_rd_roomLine_114
  show PP bb w D pm_134 (114, [(0, .ref 178), (1, .ref (tbr v1)), (2, .int (i32 v2)), (3, .int (i32 (j 3))), (4, .int (i32 (j 4))), (5, .int (i32 (j 5)))], [.int (i32 u3), .int (i32 u2), .ref 6, .ref (tbr u0)], (khp (mO m [] []) c, N), 0, 0) _
  refine P_cx1 117 81 [.ref 6, .int (i32 u2), .int (i32 u3)] [.ref (tbr u0)] rfl (fun _ => rfl) rfl rfl (D_tx_within w m c N D hm u2 u3 r2 r3) (fun y x hm e => ⟨_, rfl, hm, Or.inr ⟨x, e, rfl⟩⟩) (fun y4 h5 n6 => ?_)
  refine PK_pfi (a' := [(75, upI (y4.2.2.2 75) u0 y4.2.1)]) 120 75 (y4.2.2.2 75) rfl rfl rfl r0.1 r0.2 rfl rfl rfl ?_
  refine P_ld 121 (.int (i32 v2)) rfl (fun _ => rfl) ?_
  refine P_ifF 171 124 rfl rfl rfl q2 rfl (fun h7 => ?_) (fun h7 => ?_)
  · skip
    exact dg_rd_roomLine_171 w c N D bb (mO y4.2.2 [] [(75, upI (y4.2.2.2 75) u0 y4.2.1)]) (KCn_mO n6 rfl rfl trivial ⟨(kE_ui (KCn_a n6 75) rfl h5), trivial⟩) (jk [(1, v1), (2, v2), (3, j 3), (4, j 4), (5, j 5)])
  · skip
    refine P_ld 125 (.ref 178) rfl (fun _ => rfl) ?_
    refine PK_gf 128 (.ref 6) rfl rfl kd_178 rfl rfl rfl ?_
    refine P_ld 131 (.int (i32 317)) rfl (fun _ => rfl) ?_
    refine P_cx0 134 78 [.ref 6, .int (i32 317)] [] rfl (fun _ => rfl) rfl rfl (D_tx_expect w (mO y4.2.2 [] [(75, upI (y4.2.2.2 75) u0 y4.2.1)]) c N D (KCn_mO n6 rfl rfl trivial ⟨(kE_ui (KCn_a n6 75) rfl h5), trivial⟩) 317 (l32 317 rfl)) (fun y x hm e => ⟨_, rfl, hm, Or.inr ⟨x, e, rfl⟩⟩) (fun y8 n10 => ?_)
    refine P_ld 135 (.ref (tbr v1)) rfl (fun _ => rfl) ?_
    refine P_ld 136 (.ref 178) rfl (fun _ => rfl) ?_
    refine PK_gf 139 (.ref 6) rfl rfl kd_178 rfl rfl rfl ?_
    refine P_ld 140 (.int (i32 1)) rfl (fun _ => rfl) ?_
    refine P_ld 141 (.int (i32 4)) rfl (fun _ => rfl) ?_
    refine P_cx1 144 81 [.ref 6, .int (i32 1), .int (i32 4)] [.ref (tbr v1)] rfl (fun _ => rfl) rfl rfl (D_tx_within w y8.2.2 c N D n10 1 4 (l32 1 rfl) (l32 4 rfl)) (fun y x hm e => ⟨_, rfl, hm, Or.inr ⟨x, e, rfl⟩⟩) (fun y11 h12 n13 => ?_)
    refine PK_pfi (a' := [(76, upI (y11.2.2.2 76) v1 y11.2.1)]) 147 76 (y11.2.2.2 76) rfl rfl rfl q1.1 q1.2 rfl rfl rfl ?_
    refine P_ld 148 (.ref 178) rfl (fun _ => rfl) ?_
    refine PK_gf 151 (.ref 6) rfl rfl kd_178 rfl rfl rfl ?_
    refine P_ld 154 (.int (i32 318)) rfl (fun _ => rfl) ?_
    refine P_cx0 157 78 [.ref 6, .int (i32 318)] [] rfl (fun _ => rfl) rfl rfl (D_tx_expect w (mO y11.2.2 [] [(76, upI (y11.2.2.2 76) v1 y11.2.1)]) c N D (KCn_mO n13 rfl rfl trivial ⟨(kE_ui (KCn_a n13 76) rfl h12), trivial⟩) 318 (l32 318 rfl)) (fun y x hm e => ⟨_, rfl, hm, Or.inr ⟨x, e, rfl⟩⟩) (fun y14 n16 => ?_)
    refine P_ld 158 (.ref (tbr v1)) rfl (fun _ => rfl) ?_
    refine P_ld 159 (.ref 178) rfl (fun _ => rfl) ?_
    refine PK_gf 162 (.ref 6) rfl rfl kd_178 rfl rfl rfl ?_
    refine P_ld 163 (.int (i32 0)) rfl (fun _ => rfl) ?_
    refine P_ld 165 (.int (i32 8)) rfl (fun _ => rfl) ?_
    refine P_cx1 168 81 [.ref 6, .int (i32 0), .int (i32 8)] [.ref (tbr v1)] rfl (fun _ => rfl) rfl rfl (D_tx_within w y14.2.2 c N D n16 0 8 (l32 0 rfl) (l32 8 rfl)) (fun y x hm e => ⟨_, rfl, hm, Or.inr ⟨x, e, rfl⟩⟩) (fun y17 h18 n19 => ?_)
    refine PK_pfi (a' := [(77, upI (y17.2.2.2 77) v1 y17.2.1)]) 171 77 (y17.2.2.2 77) rfl rfl rfl q1.1 q1.2 rfl rfl rfl ?_
    exact dg_rd_roomLine_171 w c N D bb (mO y17.2.2 [] [(77, upI (y17.2.2.2 77) v1 y17.2.1)]) (KCn_mO n19 rfl rfl trivial ⟨(kE_ui (KCn_a n19 77) rfl h18), trivial⟩) (jk [(1, v1), (2, v2), (3, j 3), (4, j 4), (5, j 5)])
def kfl_rd_roomLine_97 (v1 : Int) (v2 : Int) (m : mR) : Option (Int × Int × mR) :=
  if v2 = 0 then
    kfl_rd_roomLine_114 v1 v2 v1 1 32 m
  else
    kfl_rd_roomLine_114 v1 v2 v1 1 16 m
theorem dg_rd_roomLine_97 (w : wX) (c : Nat → Option am_C) (N D : Nat) (bb : Nat) (v1 : Int) (v2 : Int) (q1 : Rt v1) (q2 : R32 v2) (m : mR) (hm : KCn m) (j : Nat → Int) : PP bb w D pm_134 (97, [(0, .ref 178), (1, .ref (tbr v1)), (2, .int (i32 v2)), (3, .int (i32 (j 3))), (4, .int (i32 (j 4))), (5, .int (i32 (j 5)))], [], (khp m c, N), 0, 0) (QS (FX0 c N) (kfl_rd_roomLine_97 v1 v2 m)) := by
  unfold kfl_rd_roomLine_97
  show PP bb w D pm_134 (97, [(0, .ref 178), (1, .ref (tbr v1)), (2, .int (i32 v2)), (3, .int (i32 (j 3))), (4, .int (i32 (j 4))), (5, .int (i32 (j 5)))], [], (khp (mO m [] []) c, N), 0, 0) _
  refine P_ld 98 (.ref (tbr v1)) rfl (fun _ => rfl) ?_
  refine P_ld 99 (.ref 178) rfl (fun _ => rfl) ?_
  refine PK_gf 102 (.ref 6) rfl rfl kd_178 rfl rfl rfl ?_
  refine P_ld 103 (.int (i32 1)) rfl (fun _ => rfl) ?_
  refine P_ld 104 (.int (i32 v2)) rfl (fun _ => rfl) ?_
  refine P_ifF 112 107 rfl rfl rfl q2 rfl (fun h20 => ?_) (fun h20 => ?_)
  · skip
    refine P_ld 114 (.int (i32 32)) rfl (fun _ => rfl) ?_
    exact dg_rd_roomLine_114 w c N D bb v1 v2 v1 1 32 q1 q2 q1 (l32 1 rfl) (l32 32 rfl) m hm (jk [(3, j 3), (4, j 4), (5, j 5)])
  · skip
    refine P_ld 109 (.int (i32 16)) rfl (fun _ => rfl) ?_
    refine P_goto 114 rfl (fun _ => rfl) ?_
    exact dg_rd_roomLine_114 w c N D bb v1 v2 v1 1 16 q1 q2 q1 (l32 1 rfl) (l32 16 rfl) m hm (jk [(3, j 3), (4, j 4), (5, j 5)])
def kfl_rd_roomLine_72 (v1 : Int) (v2 : Int) (v3 : Int) (v4 : Int) (u0 : Int) (m : mR) : Option (Int × Int × mR) :=
  if v4 = 0 then
    kfl_rd_roomLine_97 v1 v2 m
  else
    if v2 = 0 then
      kfl_rd_roomLine_97 v1 v2 m
    else
      if u0 = 0 then
        bnd (kf_tx_fail 5 v3 m) fun y24 =>
        if y24.1 = 0 then
          kfl_rd_roomLine_97 v1 v2 y24.2.2
        else
          some (y24.1, 0, y24.2.2)
      else
        kfl_rd_roomLine_97 v1 v2 m
theorem dg_rd_roomLine_72 (w : wX) (c : Nat → Option am_C) (N D : Nat) (bb : Nat) (v1 : Int) (v2 : Int) (v3 : Int) (v4 : Int) (u0 : Int) (q1 : Rt v1) (q2 : R32 v2) (q3 : R32 v3) (q4 : R32 v4) (r0 : R32 u0) (m : mR) (hm : KCn m) (j : Nat → Int) : PP bb w D pm_134 (72, [(0, .ref 178), (1, .ref (tbr v1)), (2, .int (i32 v2)), (3, .int (i32 v3)), (4, .int (i32 v4))], [.int (i32 u0)], (khp m c, N), 0, 0) (QS (FX0 c N) (kfl_rd_roomLine_72 v1 v2 v3 v4 u0 m)) := by
  unfold kfl_rd_roomLine_72
  show PP bb w D pm_134 (72, [(0, .ref 178), (1, .ref (tbr v1)), (2, .int (i32 v2)), (3, .int (i32 v3)), (4, .int (i32 v4))], [.int (i32 u0)], (khp (mO m [] []) c, N), 0, 0) _
  refine P_sto 74 [(5, .int (i32 u0)), (0, .ref 178), (1, .ref (tbr v1)), (2, .int (i32 v2)), (3, .int (i32 v3)), (4, .int (i32 v4))] rfl (fun _ => rfl) ?_
  refine P_ld 76 (.int (i32 v4)) rfl (fun _ => rfl) ?_
  refine P_ifF 97 79 rfl rfl rfl q4 rfl (fun h21 => ?_) (fun h21 => ?_)
  · skip
    refine P_lv (b := [(0, .ref 178), (1, .ref (tbr v1)), (2, .int (i32 v2)), (3, .int (i32 v3)), (4, .int (i32 v4)), (5, .int (i32 u0))]) rfl rfl ⟨rfl, rfl, rfl, rfl, rfl, rfl, trivial⟩ ?_
    exact dg_rd_roomLine_97 w c N D bb v1 v2 q1 q2 m hm (jk [(3, v3), (4, v4), (5, u0)])
  · skip
    refine P_ld 80 (.int (i32 v2)) rfl (fun _ => rfl) ?_
    refine P_ifF 97 83 rfl rfl rfl q2 rfl (fun h22 => ?_) (fun h22 => ?_)
    · skip
      refine P_lv (b := [(0, .ref 178), (1, .ref (tbr v1)), (2, .int (i32 v2)), (3, .int (i32 v3)), (4, .int (i32 v4)), (5, .int (i32 u0))]) rfl rfl ⟨rfl, rfl, rfl, rfl, rfl, rfl, trivial⟩ ?_
      exact dg_rd_roomLine_97 w c N D bb v1 v2 q1 q2 m hm (jk [(3, v3), (4, v4), (5, u0)])
    · skip
      refine P_ld 85 (.int (i32 u0)) rfl (fun _ => rfl) ?_
      refine P_ifE 97 88 rfl rfl rfl r0 rfl (fun h23 => ?_) (fun h23 => ?_)
      · skip
        refine P_ld 89 (.ref 178) rfl (fun _ => rfl) ?_
        refine PK_gf 92 (.ref 6) rfl rfl kd_178 rfl rfl rfl ?_
        refine P_ld 93 (.int (i32 5)) rfl (fun _ => rfl) ?_
        refine P_ld 94 (.int (i32 v3)) rfl (fun _ => rfl) ?_
        refine P_cx0 97 51 [.ref 6, .int (i32 5), .int (i32 v3)] [] rfl (fun _ => rfl) rfl rfl (D_tx_fail w m c N D hm 5 v3 (l32 5 rfl) q3) (fun y x hm e => ⟨_, rfl, hm, Or.inr ⟨x, e, rfl⟩⟩) (fun y24 n26 => ?_)
        refine P_lv (b := [(0, .ref 178), (1, .ref (tbr v1)), (2, .int (i32 v2)), (3, .int (i32 v3)), (4, .int (i32 v4)), (5, .int (i32 u0))]) rfl rfl ⟨rfl, rfl, rfl, rfl, rfl, rfl, trivial⟩ ?_
        exact dg_rd_roomLine_97 w c N D bb v1 v2 q1 q2 y24.2.2 n26 (jk [(3, v3), (4, v4), (5, u0)])
      · skip
        refine P_lv (b := [(0, .ref 178), (1, .ref (tbr v1)), (2, .int (i32 v2)), (3, .int (i32 v3)), (4, .int (i32 v4)), (5, .int (i32 u0))]) rfl rfl ⟨rfl, rfl, rfl, rfl, rfl, rfl, trivial⟩ ?_
        exact dg_rd_roomLine_97 w c N D bb v1 v2 q1 q2 m hm (jk [(3, v3), (4, v4), (5, u0)])
def kfl_rd_roomLine_71 (v1 : Int) (v2 : Int) (v3 : Int) (v4 : Int) (m : mR) : Option (Int × Int × mR) :=
  kfl_rd_roomLine_72 v1 v2 v3 v4 0 m
theorem dg_rd_roomLine_71 (w : wX) (c : Nat → Option am_C) (N D : Nat) (bb : Nat) (v1 : Int) (v2 : Int) (v3 : Int) (v4 : Int) (q1 : Rt v1) (q2 : R32 v2) (q3 : R32 v3) (q4 : R32 v4) (m : mR) (hm : KCn m) (j : Nat → Int) : PP bb w D pm_134 (71, [(0, .ref 178), (1, .ref (tbr v1)), (2, .int (i32 v2)), (3, .int (i32 v3)), (4, .int (i32 v4))], [], (khp m c, N), 0, 0) (QS (FX0 c N) (kfl_rd_roomLine_71 v1 v2 v3 v4 m)) := by
  unfold kfl_rd_roomLine_71
  show PP bb w D pm_134 (71, [(0, .ref 178), (1, .ref (tbr v1)), (2, .int (i32 v2)), (3, .int (i32 v3)), (4, .int (i32 v4))], [], (khp (mO m [] []) c, N), 0, 0) _
  refine P_ld 72 (.int (i32 0)) rfl (fun _ => rfl) ?_
  exact dg_rd_roomLine_72 w c N D bb v1 v2 v3 v4 0 q1 q2 q3 q4 (l32 0 rfl) m hm (jk [])
def kfl_rd_roomLine_31 (v1 : Int) (v2 : Int) (v3 : Int) (u0 : Int) (m : mR) : Option (Int × Int × mR) :=
  if cmp64 (m.1 208) 0 ≤ 0 then
    kfl_rd_roomLine_71 v1 v2 v3 u0 m
  else
    if cmp64 (and64 (m.1 208) (cutl ((m.1 208) - 1))) 0 = 0 then
      kfl_rd_roomLine_72 v1 v2 v3 u0 1 m
    else
      kfl_rd_roomLine_71 v1 v2 v3 u0 m
theorem dg_rd_roomLine_31 (w : wX) (c : Nat → Option am_C) (N D : Nat) (bb : Nat) (v1 : Int) (v2 : Int) (v3 : Int) (u0 : Int) (q1 : Rt v1) (q2 : R32 v2) (q3 : R32 v3) (r0 : R32 u0) (m : mR) (hm : KCn m) (j : Nat → Int) : PP bb w D pm_134 (31, [(0, .ref 178), (1, .ref (tbr v1)), (2, .int (i32 v2)), (3, .int (i32 v3))], [.int (i32 u0)], (khp m c, N), 0, 0) (QS (FX0 c N) (kfl_rd_roomLine_31 v1 v2 v3 u0 m)) := by
  unfold kfl_rd_roomLine_31
  show PP bb w D pm_134 (31, [(0, .ref 178), (1, .ref (tbr v1)), (2, .int (i32 v2)), (3, .int (i32 v3))], [.int (i32 u0)], (khp (mO m [] []) c, N), 0, 0) _
  refine P_sto 33 [(4, .int (i32 u0)), (0, .ref 178), (1, .ref (tbr v1)), (2, .int (i32 v2)), (3, .int (i32 v3))] rfl (fun _ => rfl) ?_
  refine P_ld 34 (.ref 178) rfl (fun _ => rfl) ?_
  refine PK_gf 37 (.ref 6) rfl rfl kd_178 rfl rfl rfl ?_
  refine PK_gf 40 (.long (i64 (m.1 208))) rfl rfl kd_6 rfl rfl rfl ?_
  refine P_ld 41 (.long (i64 0)) rfl (fun _ => rfl) ?_
  refine P_op 42 (cmp64 (m.1 208) 0) _ rfl (fun _ => rfl) (o_cmp (KCn_l hm 208 rfl) (l64 0 rfl)) ?_
  refine P_ifF 71 45 rfl rfl rfl cmp64_r rfl (fun h27 => ?_) (fun h27 => ?_)
  · skip
    refine P_lv (b := [(0, .ref 178), (1, .ref (tbr v1)), (2, .int (i32 v2)), (3, .int (i32 v3)), (4, .int (i32 u0))]) rfl rfl ⟨rfl, rfl, rfl, rfl, rfl, trivial⟩ ?_
    exact dg_rd_roomLine_71 w c N D bb v1 v2 v3 u0 q1 q2 q3 r0 m hm (jk [])
  · skip
    refine P_ld 46 (.ref 178) rfl (fun _ => rfl) ?_
    refine PK_gf 49 (.ref 6) rfl rfl kd_178 rfl rfl rfl ?_
    refine PK_gf 52 (.long (i64 (m.1 208))) rfl rfl kd_6 rfl rfl rfl ?_
    refine P_ld 53 (.ref 178) rfl (fun _ => rfl) ?_
    refine PK_gf 56 (.ref 6) rfl rfl kd_178 rfl rfl rfl ?_
    refine PK_gf 59 (.long (i64 (m.1 208))) rfl rfl kd_6 rfl rfl rfl ?_
    refine P_ld 60 (.long (i64 1)) rfl (fun _ => rfl) ?_
    refine P_opl 61 (cutl ((m.1 208) - 1)) _ rfl (fun _ => rfl) p_sub ?_
    refine P_opl 62 (and64 (m.1 208) (cutl ((m.1 208) - 1))) _ rfl (fun _ => rfl) (Int64.ofInt_toInt _).symm ?_
    refine P_ld 63 (.long (i64 0)) rfl (fun _ => rfl) ?_
    refine P_op 64 (cmp64 (and64 (m.1 208) (cutl ((m.1 208) - 1))) 0) _ rfl (fun _ => rfl) (o_cmp t64_r (l64 0 rfl)) ?_
    refine P_ifE 71 67 rfl rfl rfl cmp64_r rfl (fun h28 => ?_) (fun h28 => ?_)
    · skip
      refine P_ld 68 (.int (i32 1)) rfl (fun _ => rfl) ?_
      refine P_goto 72 rfl (fun _ => rfl) ?_
      refine P_lv (b := [(0, .ref 178), (1, .ref (tbr v1)), (2, .int (i32 v2)), (3, .int (i32 v3)), (4, .int (i32 u0))]) rfl rfl ⟨rfl, rfl, rfl, rfl, rfl, trivial⟩ ?_
      exact dg_rd_roomLine_72 w c N D bb v1 v2 v3 u0 1 q1 q2 q3 r0 (l32 1 rfl) m hm (jk [])
    · skip
      refine P_lv (b := [(0, .ref 178), (1, .ref (tbr v1)), (2, .int (i32 v2)), (3, .int (i32 v3)), (4, .int (i32 u0))]) rfl rfl ⟨rfl, rfl, rfl, rfl, rfl, trivial⟩ ?_
      exact dg_rd_roomLine_71 w c N D bb v1 v2 v3 u0 q1 q2 q3 r0 m hm (jk [])
def kf_rd_roomLine (v1 : Int) (m : mR) : Option (Int × Int × mR) :=
  bnd (kf_tb_isHashed v1 m) fun y29 =>
  if m.1 206 = 257 then
    kfl_rd_roomLine_31 v1 y29 (m.1 207) 1 m
  else
    kfl_rd_roomLine_31 v1 y29 (m.1 207) 0 m
theorem D_rd_roomLine (w : wX) (m : mR) (c : Nat → Option am_C) (N D : Nat) (hm : KCn m) (v1 : Int) (q1 : Rt v1) : PC w D 134 [.ref 178, .ref (tbr v1)] (khp m c, N) (QS (FX0 c N) (kf_rd_roomLine v1 m)) := by
  refine Pc_of (fun D bb => ?_) D
  unfold kf_rd_roomLine
  show PP bb w D pm_134 (0, [(0, .ref 178), (1, .ref (tbr v1))], [], (khp (mO m [] []) c, N), 0, 0) _
  refine P_ld 1 (.ref (tbr v1)) rfl (fun _ => rfl) ?_
  refine P_cp1 4 135 [.ref (tbr v1)] [] rfl (inv_vt (args := []) (khp_t0 _ q1.1 q1.2) rfl rfl rfl) rfl (D_tb_isHashed w m c N D hm v1 q1) (fun y29 h30 => ?_)
  refine P_sto 5 [(2, .int (i32 y29)), (0, .ref 178), (1, .ref (tbr v1))] rfl (fun _ => rfl) ?_
  refine P_ld 6 (.ref 178) rfl (fun _ => rfl) ?_
  refine PK_gf 9 (.ref 6) rfl rfl kd_178 rfl rfl rfl ?_
  refine PK_gf 12 (.int (i32 (m.1 207))) rfl rfl kd_6 rfl rfl rfl ?_
  refine P_sto 13 [(3, .int (i32 (m.1 207))), (2, .int (i32 y29)), (0, .ref 178), (1, .ref (tbr v1))] rfl (fun _ => rfl) ?_
  refine P_ld 14 (.ref 178) rfl (fun _ => rfl) ?_
  refine PK_gf 17 (.ref 6) rfl rfl kd_178 rfl rfl rfl ?_
  refine PK_gf 20 (.int (i32 (m.1 206))) rfl rfl kd_6 rfl rfl rfl ?_
  refine P_ld 23 (.int (i32 257)) rfl (fun _ => rfl) ?_
  refine P_icE 30 26 rfl rfl rfl (KCn_i hm 206 rfl) (l32 257 rfl) rfl (fun h32 => ?_) (fun h32 => ?_)
  · skip
    refine P_ld 27 (.int (i32 1)) rfl (fun _ => rfl) ?_
    refine P_goto 31 rfl (fun _ => rfl) ?_
    refine P_lv (b := [(0, .ref 178), (1, .ref (tbr v1)), (2, .int (i32 y29)), (3, .int (i32 (m.1 207)))]) rfl rfl ⟨rfl, rfl, rfl, rfl, trivial⟩ ?_
    exact dg_rd_roomLine_31 w c N D bb v1 y29 (m.1 207) 1 q1 h30 (KCn_i hm 207 rfl) (l32 1 rfl) m hm (jk [])
  · skip
    refine P_ld 31 (.int (i32 0)) rfl (fun _ => rfl) ?_
    refine P_lv (b := [(0, .ref 178), (1, .ref (tbr v1)), (2, .int (i32 y29)), (3, .int (i32 (m.1 207)))]) rfl rfl ⟨rfl, rfl, rfl, rfl, trivial⟩ ?_
    exact dg_rd_roomLine_31 w c N D bb v1 y29 (m.1 207) 0 q1 h30 (KCn_i hm 207 rfl) (l32 0 rfl) m hm (jk [])
def cs_tb_lists_2 (s : Int) : Prop := R32 s
def cx_tb_lists_2 : (Sum (Unit) (Unit)) → Prop := (sel (fun (e : Unit) => True) (fun (e : Unit) => True))
def hd_tb_lists_2 (c : Nat → Option am_C) (N : Nat) (v0 : Int) (v1 : Int) (m : mR) (s : Int) (j : Nat → Int) : ag_St af_T := (2, [(0, .ref (tbr v0)), (1, .int (i32 v1)), (2, .int (i32 s))], [], (khp m c, N), 0, 0)
def ex_tb_lists_2 (c : Nat → Option am_C) (N : Nat) (v0 : Int) (v1 : Int) (m : mR) : (Sum (Unit) (Unit)) → (Nat → Int) → ag_St af_T := (sel (fun (e : Unit) (j : Nat → Int) => ((20, [(0, .ref (tbr (j 0))), (1, .int (i32 (j 1))), (2, .int (i32 (j 2)))], [], (khp m c, N), 0, 0) : ag_St af_T)) (fun (e : Unit) (j : Nat → Int) => ((28, [(0, .ref (tbr (j 0))), (1, .int (i32 (j 1))), (2, .int (i32 (j 2)))], [], (khp m c, N), 0, 0) : ag_St af_T)))
def kfb_tb_lists_2 (v0 : Int) (v1 : Int) (m : mR) (s : Int) : Option (Sum (Int) (Sum (Unit) (Unit))) :=
  if (m.2 73) v0 ≤ s then
    some (.inr (.inr ()))
  else
    if (m.2 83) (65536 * v0 + s) = v1 then
      some (.inr (.inl ()))
    else
      some (.inl (cut (s + 1)))
theorem dh_tb_lists_2 (w : wX) (c : Nat → Option am_C) (N D : Nat) (v0 : Int) (v1 : Int) (q0 : Rt v0) (q1 : R32 v1) (m : mR) (hm : KCn m) (bb : Nat) (Q2 : Sum (Int) (Sum (Unit) (Unit)) → ag_Re af_T → Prop) (H1 : ∀ s j, cs_tb_lists_2 s → PP bb w D pm_132 (hd_tb_lists_2 c N v0 v1 m s j) (Q2 (.inl s))) (H2 : ∀ x j, cx_tb_lists_2 x → PP bb w D pm_132 (ex_tb_lists_2 c N v0 v1 m x j) (Q2 (.inr x))) (s : Int) (j : Nat → Int) (hs : cs_tb_lists_2 s) : PP (bb + 1) w D pm_132 (hd_tb_lists_2 c N v0 v1 m s j) (QS Q2 (kfb_tb_lists_2 v0 v1 m s)) := by
  have g2 := hs
  unfold kfb_tb_lists_2
  show PP (bb + 1) w D pm_132 (2, [(0, .ref (tbr v0)), (1, .int (i32 v1)), (2, .int (i32 s))], [], (khp (mO m [] []) c, N), 0, 0) _
  refine P1_ld 3 (.int (i32 s)) rfl (fun _ => rfl) ?_
  refine P_ld 4 (.ref (tbr v0)) rfl (fun _ => rfl) ?_
  refine PK_gfi 7 73 (m.2 73) rfl rfl q0.1 q0.2 rfl rfl ?_
  refine P_icF 28 10 rfl rfl rfl g2 (kE_i (KCn_a hm 73) rfl _) rfl (fun h1 => ?_) (fun h1 => ?_)
  · skip
    refine P_some ?_
    exact H2 (.inr ()) (jk [(0, v0), (1, v1), (2, s)]) trivial
  · skip
    refine P_ld 11 (.ref (tbr v0)) rfl (fun _ => rfl) ?_
    refine PK_gfr 14 rfl rfl q0.1 q0.2 rfl ?_
    refine P_ld 15 (.int (i32 s)) rfl (fun _ => rfl) ?_
    refine PK_ialt2 16 4 (m.2 83) rfl rfl rfl q0 g2 rfl ?_
    refine P_ld 17 (.int (i32 v1)) rfl (fun _ => rfl) ?_
    refine P_icE 22 20 rfl rfl rfl (kE_i (KCn_a hm 83) rfl _) q1 rfl (fun h2 => ?_) (fun h2 => ?_)
    · skip
      refine P_some ?_
      exact H2 (.inl ()) (jk [(0, v0), (1, v1), (2, s)]) trivial
    · skip
      refine P_inc 25 [(2, .int (i32 (cut (s + 1)))), (0, .ref (tbr v0)), (1, .int (i32 v1))] rfl rfl (by decide) rfl rfl ?_
      refine P_goto 2 rfl (fun _ => rfl) ?_
      refine P_some ?_
      refine P_lv (b := [(0, .ref (tbr v0)), (1, .int (i32 v1)), (2, .int (i32 (cut (s + 1))))]) rfl rfl ⟨rfl, rfl, rfl, trivial⟩ ?_
      exact H1 (cut (s + 1)) (jk []) cut_r
def kf_tb_lists (v0 : Int) (v1 : Int) (m : mR) : Option Int :=
  bnd (whl (kfb_tb_lists_2 v0 v1 m) 0) (sel
    (fun e3 : Unit =>
      some 1)
    (fun e5 : Unit =>
      some 0))
theorem D_tb_lists (w : wX) (m : mR) (c : Nat → Option am_C) (N D : Nat) (hm : KCn m) (v0 : Int) (v1 : Int) (q0 : Rt v0) (q1 : R32 v1) : PC w D 132 [.ref (tbr v0), .int (i32 v1)] (khp m c, N) (QS (FP1 (khp m c, N)) (kf_tb_lists v0 v1 m)) := by
  refine Pc_of (fun D bb => ?_) D
  unfold kf_tb_lists
  show PP bb w D pm_132 (0, [(0, .ref (tbr v0)), (1, .int (i32 v1))], [], (khp (mO m [] []) c, N), 0, 0) _
  refine P_ld 1 (.int (i32 0)) rfl (fun _ => rfl) ?_
  refine P_sto 2 [(2, .int (i32 0)), (0, .ref (tbr v0)), (1, .int (i32 v1))] rfl (fun _ => rfl) ?_
  refine P_lv (b := [(0, .ref (tbr v0)), (1, .int (i32 v1)), (2, .int (i32 0))]) rfl rfl ⟨rfl, rfl, rfl, trivial⟩ ?_
  refine P_bnd ?_
  refine P_whl (fun bb Q2 H1 H2 s9 j9 hs9 => dh_tb_lists_2 w c N D v0 v1 q0 q1 m hm bb Q2 H1 H2 s9 j9 hs9) bb (fun x0 j hx0 => ?_) 0 (jk []) (l32 0 rfl)
  cases x0 with
  | inl e3 =>
    have q4 := hx0
    show PP bb w D pm_132 (20, [(0, .ref (tbr (j 0))), (1, .int (i32 (j 1))), (2, .int (i32 (j 2)))], [], (khp (mO m [] []) c, N), 0, 0) (QS _ (some 1))
    refine P_ld 21 (.int (i32 1)) rfl (fun _ => rfl) ?_
    exact P_rp1 rfl (l32 1 rfl)
  | inr e5 =>
    have q6 := hx0
    show PP bb w D pm_132 (28, [(0, .ref (tbr (j 0))), (1, .int (i32 (j 1))), (2, .int (i32 (j 2)))], [], (khp (mO m [] []) c, N), 0, 0) (QS _ (some 0))
    refine P_ld 29 (.int (i32 0)) rfl (fun _ => rfl) ?_
    exact P_rp1 rfl (l32 0 rfl)
def kfl_rd_listedAction_67 (v1 : Int) (v2 : Int) (v4 : Int) (m : mR) : Option (Int × Int × mR) :=
  some (0, 0, (mO m [] [(73, upI (m.2 73) v1 (cut (v2 + 1))), (83, upI (m.2 83) (65536 * v1 + v2) v4)]))
theorem dg_rd_listedAction_67 (w : wX) (c : Nat → Option am_C) (N D : Nat) (bb : Nat) (v1 : Int) (v2 : Int) (v4 : Int) (q1 : Rt v1) (q2 : R32 v2) (q4 : R32 v4) (m : mR) (hm : KCn m) (j : Nat → Int) : PP bb w D pm_131 (67, [(0, .ref 178), (1, .ref (tbr v1)), (2, .int (i32 v2)), (3, .int (i32 (j 3))), (4, .int (i32 v4))], [], (khp m c, N), 0, 0) (QS (FX0 c N) (kfl_rd_listedAction_67 v1 v2 v4 m)) := by
  unfold kfl_rd_listedAction_67
  show PP bb w D pm_131 (67, [(0, .ref 178), (1, .ref (tbr v1)), (2, .int (i32 v2)), (3, .int (i32 (j 3))), (4, .int (i32 v4))], [], (khp (mO m [] []) c, N), 0, 0) _
  refine P_ld 68 (.ref (tbr v1)) rfl (fun _ => rfl) ?_
  refine PK_gfr 71 rfl rfl q1.1 q1.2 rfl ?_
  refine P_ld 72 (.int (i32 v2)) rfl (fun _ => rfl) ?_
  refine P_ld 74 (.int (i32 v4)) rfl (fun _ => rfl) ?_
  refine PK_iastt2 (a' := [(83, upI (m.2 83) (65536 * v1 + v2) v4)]) 75 4 (m.2 83) rfl rfl rfl q1 q2 rfl rfl ?_
  refine P_ld 76 (.ref (tbr v1)) rfl (fun _ => rfl) ?_
  refine P_ld 77 (.int (i32 v2)) rfl (fun _ => rfl) ?_
  refine P_ld 78 (.int (i32 1)) rfl (fun _ => rfl) ?_
  refine P_op 79 (cut (v2 + 1)) _ rfl (fun _ => rfl) o_add ?_
  refine PK_pfi (a' := [(73, upI (m.2 73) v1 (cut (v2 + 1))), (83, upI (m.2 83) (65536 * v1 + v2) v4)]) 82 73 (m.2 73) rfl rfl rfl q1.1 q1.2 rfl rfl rfl ?_
  exact P_rx0 rfl rfl (KCn_mO hm rfl rfl trivial ⟨(kE_ui (KCn_a hm 73) rfl cut_r), (kE_ui (KCn_a hm 83) rfl q4), trivial⟩)
def kfl_rd_listedAction_36 (v1 : Int) (v2 : Int) (v3 : Int) (m : mR) : Option (Int × Int × mR) :=
  bnd (kf_tx_known 309 m) fun y1 =>
  if y1.1 = 0 then
    bnd (kf_tb_lists v1 y1.2.1 y1.2.2) fun y4 =>
    if y4 = 0 then
      kfl_rd_listedAction_67 v1 v2 y1.2.1 y1.2.2
    else
      bnd (kf_tx_fail 8 v3 y1.2.2) fun y8 =>
      if y8.1 = 0 then
        kfl_rd_listedAction_67 v1 v2 y1.2.1 y8.2.2
      else
        some (y8.1, 0, y8.2.2)
  else
    some (y1.1, 0, y1.2.2)
theorem dg_rd_listedAction_36 (w : wX) (c : Nat → Option am_C) (N D : Nat) (bb : Nat) (v1 : Int) (v2 : Int) (v3 : Int) (q1 : Rt v1) (q2 : R32 v2) (q3 : R32 v3) (m : mR) (hm : KCn m) (j : Nat → Int) : PP bb w D pm_131 (36, [(0, .ref 178), (1, .ref (tbr v1)), (2, .int (i32 v2)), (3, .int (i32 v3))], [], (khp m c, N), 0, 0) (QS (FX0 c N) (kfl_rd_listedAction_36 v1 v2 v3 m)) := by
  unfold kfl_rd_listedAction_36
  show PP bb w D pm_131 (36, [(0, .ref 178), (1, .ref (tbr v1)), (2, .int (i32 v2)), (3, .int (i32 v3))], [], (khp (mO m [] []) c, N), 0, 0) _
  refine P_ld 37 (.ref 178) rfl (fun _ => rfl) ?_
  refine PK_gf 40 (.ref 6) rfl rfl kd_178 rfl rfl rfl ?_
  refine P_ld 43 (.int (i32 309)) rfl (fun _ => rfl) ?_
  refine P_cx1 46 83 [.ref 6, .int (i32 309)] [] rfl (fun _ => rfl) rfl rfl (D_tx_known w m c N D hm 309 (l32 309 rfl)) (fun y x hm e => ⟨_, rfl, hm, Or.inr ⟨x, e, rfl⟩⟩) (fun y1 h2 n3 => ?_)
  refine P_sto 48 [(4, .int (i32 y1.2.1)), (0, .ref 178), (1, .ref (tbr v1)), (2, .int (i32 v2)), (3, .int (i32 v3))] rfl (fun _ => rfl) ?_
  refine P_ld 49 (.ref (tbr v1)) rfl (fun _ => rfl) ?_
  refine P_ld 51 (.int (i32 y1.2.1)) rfl (fun _ => rfl) ?_
  refine P_cp1 54 132 [.ref (tbr v1), .int (i32 y1.2.1)] [] rfl (inv_vt (args := [.int (i32 y1.2.1)]) (khp_t0 _ q1.1 q1.2) rfl rfl rfl) rfl (D_tb_lists w y1.2.2 c N D n3 v1 y1.2.1 q1 h2) (fun y4 h5 => ?_)
  refine P_ifF 67 57 rfl rfl rfl h5 rfl (fun h7 => ?_) (fun h7 => ?_)
  · skip
    refine P_lv (b := [(0, .ref 178), (1, .ref (tbr v1)), (2, .int (i32 v2)), (3, .int (i32 v3)), (4, .int (i32 y1.2.1))]) rfl rfl ⟨rfl, rfl, rfl, rfl, rfl, trivial⟩ ?_
    exact dg_rd_listedAction_67 w c N D bb v1 v2 y1.2.1 q1 q2 h2 y1.2.2 n3 (jk [(3, v3)])
  · skip
    refine P_ld 58 (.ref 178) rfl (fun _ => rfl) ?_
    refine PK_gf 61 (.ref 6) rfl rfl kd_178 rfl rfl rfl ?_
    refine P_ld 63 (.int (i32 8)) rfl (fun _ => rfl) ?_
    refine P_ld 64 (.int (i32 v3)) rfl (fun _ => rfl) ?_
    refine P_cx0 67 51 [.ref 6, .int (i32 8), .int (i32 v3)] [] rfl (fun _ => rfl) rfl rfl (D_tx_fail w y1.2.2 c N D n3 8 v3 (l32 8 rfl) q3) (fun y x hm e => ⟨_, rfl, hm, Or.inr ⟨x, e, rfl⟩⟩) (fun y8 n10 => ?_)
    refine P_lv (b := [(0, .ref 178), (1, .ref (tbr v1)), (2, .int (i32 v2)), (3, .int (i32 v3)), (4, .int (i32 y1.2.1))]) rfl rfl ⟨rfl, rfl, rfl, rfl, rfl, trivial⟩ ?_
    exact dg_rd_listedAction_67 w c N D bb v1 v2 y1.2.1 q1 q2 h2 y8.2.2 n10 (jk [(3, v3)])
def kf_rd_listedAction (v1 : Int) (v2 : Int) (m : mR) : Option (Int × Int × mR) :=
  if m.1 206 = 256 then
    if v2 < 8 then
      kfl_rd_listedAction_36 v1 v2 (m.1 207) m
    else
      bnd (kf_tx_fail 4 (m.1 207) m) fun y13 =>
      if y13.1 = 0 then
        kfl_rd_listedAction_36 v1 v2 (m.1 207) y13.2.2
      else
        some (y13.1, 0, y13.2.2)
  else
    kfl_rd_listedAction_36 v1 v2 (m.1 207) m
theorem D_rd_listedAction (w : wX) (m : mR) (c : Nat → Option am_C) (N D : Nat) (hm : KCn m) (v1 : Int) (v2 : Int) (q1 : Rt v1) (q2 : R32 v2) : PC w D 131 [.ref 178, .ref (tbr v1), .int (i32 v2)] (khp m c, N) (QS (FX0 c N) (kf_rd_listedAction v1 v2 m)) := by
  refine Pc_of (fun D bb => ?_) D
  unfold kf_rd_listedAction
  show PP bb w D pm_131 (0, [(0, .ref 178), (1, .ref (tbr v1)), (2, .int (i32 v2))], [], (khp (mO m [] []) c, N), 0, 0) _
  refine P_ld 1 (.ref 178) rfl (fun _ => rfl) ?_
  refine PK_gf 4 (.ref 6) rfl rfl kd_178 rfl rfl rfl ?_
  refine PK_gf 7 (.int (i32 (m.1 207))) rfl rfl kd_6 rfl rfl rfl ?_
  refine P_sto 8 [(3, .int (i32 (m.1 207))), (0, .ref 178), (1, .ref (tbr v1)), (2, .int (i32 v2))] rfl (fun _ => rfl) ?_
  refine P_ld 9 (.ref 178) rfl (fun _ => rfl) ?_
  refine PK_gf 12 (.ref 6) rfl rfl kd_178 rfl rfl rfl ?_
  refine PK_gf 15 (.int (i32 (m.1 206))) rfl rfl kd_6 rfl rfl rfl ?_
  refine P_ld 18 (.int (i32 256)) rfl (fun _ => rfl) ?_
  refine P_icE 36 21 rfl rfl rfl (KCn_i hm 206 rfl) (l32 256 rfl) rfl (fun h11 => ?_) (fun h11 => ?_)
  · skip
    refine P_ld 22 (.int (i32 v2)) rfl (fun _ => rfl) ?_
    refine P_ld 24 (.int (i32 8)) rfl (fun _ => rfl) ?_
    refine P_icF 36 27 rfl rfl rfl q2 (l32 8 rfl) rfl (fun h12 => ?_) (fun h12 => ?_)
    · skip
      refine P_lv (b := [(0, .ref 178), (1, .ref (tbr v1)), (2, .int (i32 v2)), (3, .int (i32 (m.1 207)))]) rfl rfl ⟨rfl, rfl, rfl, rfl, trivial⟩ ?_
      exact dg_rd_listedAction_36 w c N D bb v1 v2 (m.1 207) q1 q2 (KCn_i hm 207 rfl) m hm (jk [])
    · skip
      refine P_ld 28 (.ref 178) rfl (fun _ => rfl) ?_
      refine PK_gf 31 (.ref 6) rfl rfl kd_178 rfl rfl rfl ?_
      refine P_ld 32 (.int (i32 4)) rfl (fun _ => rfl) ?_
      refine P_ld 33 (.int (i32 (m.1 207))) rfl (fun _ => rfl) ?_
      refine P_cx0 36 51 [.ref 6, .int (i32 4), .int (i32 (m.1 207))] [] rfl (fun _ => rfl) rfl rfl (D_tx_fail w m c N D hm 4 (m.1 207) (l32 4 rfl) (KCn_i hm 207 rfl)) (fun y x hm e => ⟨_, rfl, hm, Or.inr ⟨x, e, rfl⟩⟩) (fun y13 n15 => ?_)
      refine P_lv (b := [(0, .ref 178), (1, .ref (tbr v1)), (2, .int (i32 v2)), (3, .int (i32 (m.1 207)))]) rfl rfl ⟨rfl, rfl, rfl, rfl, trivial⟩ ?_
      exact dg_rd_listedAction_36 w c N D bb v1 v2 (m.1 207) q1 q2 (KCn_i hm 207 rfl) y13.2.2 n15 (jk [])
  · skip
    refine P_lv (b := [(0, .ref 178), (1, .ref (tbr v1)), (2, .int (i32 v2)), (3, .int (i32 (m.1 207)))]) rfl rfl ⟨rfl, rfl, rfl, rfl, trivial⟩ ?_
    exact dg_rd_listedAction_36 w c N D bb v1 v2 (m.1 207) q1 q2 (KCn_i hm 207 rfl) m hm (jk [])
def cs_tb_hasKey_2 (s : Int) : Prop := R32 s
def cx_tb_hasKey_2 : (Sum (Unit) (Unit)) → Prop := (sel (fun (e : Unit) => True) (fun (e : Unit) => True))
def hd_tb_hasKey_2 (c : Nat → Option am_C) (N : Nat) (v0 : Int) (v1 : Int) (m : mR) (s : Int) (j : Nat → Int) : ag_St af_T := (2, [(0, .ref (tbr v0)), (1, .int (i32 v1)), (2, .int (i32 s))], [], (khp m c, N), 0, 0)
def ex_tb_hasKey_2 (c : Nat → Option am_C) (N : Nat) (v0 : Int) (v1 : Int) (m : mR) : (Sum (Unit) (Unit)) → (Nat → Int) → ag_St af_T := (sel (fun (e : Unit) (j : Nat → Int) => ((20, [(0, .ref (tbr (j 0))), (1, .int (i32 (j 1))), (2, .int (i32 (j 2)))], [], (khp m c, N), 0, 0) : ag_St af_T)) (fun (e : Unit) (j : Nat → Int) => ((28, [(0, .ref (tbr (j 0))), (1, .int (i32 (j 1))), (2, .int (i32 (j 2)))], [], (khp m c, N), 0, 0) : ag_St af_T)))
def kfb_tb_hasKey_2 (v0 : Int) (v1 : Int) (m : mR) (s : Int) : Option (Sum (Int) (Sum (Unit) (Unit))) :=
  if (m.2 72) v0 ≤ s then
    some (.inr (.inr ()))
  else
    if (m.2 81) (65536 * v0 + s) = v1 then
      some (.inr (.inl ()))
    else
      some (.inl (cut (s + 1)))
theorem dh_tb_hasKey_2 (w : wX) (c : Nat → Option am_C) (N D : Nat) (v0 : Int) (v1 : Int) (q0 : Rt v0) (q1 : R32 v1) (m : mR) (hm : KCn m) (bb : Nat) (Q2 : Sum (Int) (Sum (Unit) (Unit)) → ag_Re af_T → Prop) (H1 : ∀ s j, cs_tb_hasKey_2 s → PP bb w D pm_130 (hd_tb_hasKey_2 c N v0 v1 m s j) (Q2 (.inl s))) (H2 : ∀ x j, cx_tb_hasKey_2 x → PP bb w D pm_130 (ex_tb_hasKey_2 c N v0 v1 m x j) (Q2 (.inr x))) (s : Int) (j : Nat → Int) (hs : cs_tb_hasKey_2 s) : PP (bb + 1) w D pm_130 (hd_tb_hasKey_2 c N v0 v1 m s j) (QS Q2 (kfb_tb_hasKey_2 v0 v1 m s)) := by
  have g2 := hs
  unfold kfb_tb_hasKey_2
  show PP (bb + 1) w D pm_130 (2, [(0, .ref (tbr v0)), (1, .int (i32 v1)), (2, .int (i32 s))], [], (khp (mO m [] []) c, N), 0, 0) _
  refine P1_ld 3 (.int (i32 s)) rfl (fun _ => rfl) ?_
  refine P_ld 4 (.ref (tbr v0)) rfl (fun _ => rfl) ?_
  refine PK_gfi 7 72 (m.2 72) rfl rfl q0.1 q0.2 rfl rfl ?_
  refine P_icF 28 10 rfl rfl rfl g2 (kE_i (KCn_a hm 72) rfl _) rfl (fun h1 => ?_) (fun h1 => ?_)
  · skip
    refine P_some ?_
    exact H2 (.inr ()) (jk [(0, v0), (1, v1), (2, s)]) trivial
  · skip
    refine P_ld 11 (.ref (tbr v0)) rfl (fun _ => rfl) ?_
    refine PK_gfr 14 rfl rfl q0.1 q0.2 rfl ?_
    refine P_ld 15 (.int (i32 s)) rfl (fun _ => rfl) ?_
    refine PK_ialt2 16 2 (m.2 81) rfl rfl rfl q0 g2 rfl ?_
    refine P_ld 17 (.int (i32 v1)) rfl (fun _ => rfl) ?_
    refine P_icE 22 20 rfl rfl rfl (kE_i (KCn_a hm 81) rfl _) q1 rfl (fun h2 => ?_) (fun h2 => ?_)
    · skip
      refine P_some ?_
      exact H2 (.inl ()) (jk [(0, v0), (1, v1), (2, s)]) trivial
    · skip
      refine P_inc 25 [(2, .int (i32 (cut (s + 1)))), (0, .ref (tbr v0)), (1, .int (i32 v1))] rfl rfl (by decide) rfl rfl ?_
      refine P_goto 2 rfl (fun _ => rfl) ?_
      refine P_some ?_
      refine P_lv (b := [(0, .ref (tbr v0)), (1, .int (i32 v1)), (2, .int (i32 (cut (s + 1))))]) rfl rfl ⟨rfl, rfl, rfl, trivial⟩ ?_
      exact H1 (cut (s + 1)) (jk []) cut_r
def kf_tb_hasKey (v0 : Int) (v1 : Int) (m : mR) : Option Int :=
  bnd (whl (kfb_tb_hasKey_2 v0 v1 m) 0) (sel
    (fun e3 : Unit =>
      some 1)
    (fun e5 : Unit =>
      some 0))
theorem D_tb_hasKey (w : wX) (m : mR) (c : Nat → Option am_C) (N D : Nat) (hm : KCn m) (v0 : Int) (v1 : Int) (q0 : Rt v0) (q1 : R32 v1) : PC w D 130 [.ref (tbr v0), .int (i32 v1)] (khp m c, N) (QS (FP1 (khp m c, N)) (kf_tb_hasKey v0 v1 m)) := by
  refine Pc_of (fun D bb => ?_) D
  unfold kf_tb_hasKey
  show PP bb w D pm_130 (0, [(0, .ref (tbr v0)), (1, .int (i32 v1))], [], (khp (mO m [] []) c, N), 0, 0) _
  refine P_ld 1 (.int (i32 0)) rfl (fun _ => rfl) ?_
  refine P_sto 2 [(2, .int (i32 0)), (0, .ref (tbr v0)), (1, .int (i32 v1))] rfl (fun _ => rfl) ?_
  refine P_lv (b := [(0, .ref (tbr v0)), (1, .int (i32 v1)), (2, .int (i32 0))]) rfl rfl ⟨rfl, rfl, rfl, trivial⟩ ?_
  refine P_bnd ?_
  refine P_whl (fun bb Q2 H1 H2 s9 j9 hs9 => dh_tb_hasKey_2 w c N D v0 v1 q0 q1 m hm bb Q2 H1 H2 s9 j9 hs9) bb (fun x0 j hx0 => ?_) 0 (jk []) (l32 0 rfl)
  cases x0 with
  | inl e3 =>
    have q4 := hx0
    show PP bb w D pm_130 (20, [(0, .ref (tbr (j 0))), (1, .int (i32 (j 1))), (2, .int (i32 (j 2)))], [], (khp (mO m [] []) c, N), 0, 0) (QS _ (some 1))
    refine P_ld 21 (.int (i32 1)) rfl (fun _ => rfl) ?_
    exact P_rp1 rfl (l32 1 rfl)
  | inr e5 =>
    have q6 := hx0
    show PP bb w D pm_130 (28, [(0, .ref (tbr (j 0))), (1, .int (i32 (j 1))), (2, .int (i32 (j 2)))], [], (khp (mO m [] []) c, N), 0, 0) (QS _ (some 0))
    refine P_ld 29 (.int (i32 0)) rfl (fun _ => rfl) ?_
    exact P_rp1 rfl (l32 0 rfl)
end X28L
