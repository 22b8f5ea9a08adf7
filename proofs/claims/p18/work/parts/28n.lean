noncomputable section X28N
def cs_rd_action_80 (s : Int × Int × mR) : Prop := R32 s.1 ∧ R32 s.2.1 ∧ KCn s.2.2
def cx_rd_action_80 : (Sum (mR) (Int × mR)) → Prop := (sel (fun (e : mR) => KCn e) (fun (e : Int × mR) => False))
def hd_rd_action_80 (c : Nat → Option am_C) (N : Nat) (v1 : Int) (s : Int × Int × mR) (j : Nat → Int) : ag_St af_T := (80, [(0, .ref 178), (1, .int (i32 v1)), (2, .int (i32 s.1)), (3, .int (i32 s.2.1))], [], (khp s.2.2 c, N), 0, 0)
def ex_rd_action_80 (c : Nat → Option am_C) (N : Nat) (v1 : Int) : (Sum (mR) (Int × mR)) → (Nat → Int) → ag_St af_T := (sel (fun (e : mR) (j : Nat → Int) => ((106, [(0, .ref 178), (1, .int (i32 v1)), (2, .int (i32 (j 2))), (3, .int (i32 (j 3)))], [], (khp e c, N), 0, 0) : ag_St af_T)) (fun (e : Int × mR) (j : Nat → Int) => ((0, [], [], (khp e.2 c, N), 0, 0) : ag_St af_T)))
def tx_rd_action_80 (c : Nat → Option am_C) (N : Nat) : (Sum (mR) (Int × mR)) → ag_Re af_T → Prop := (sel (fun (_ : mR) (_ : ag_Re af_T) => False) (fun (e : Int × mR) (r : ag_Re af_T) => ∃ x : Nat, e.1 = x + 1 ∧ KCn e.2 ∧ r = (.inr x, (khp e.2 c, N), 1, 6)))
def cs_rd_action_142 (s : Int × mR) : Prop := R32 s.1 ∧ KCn s.2
def cx_rd_action_142 : (Sum (mR) (Int × mR)) → Prop := (sel (fun (e : mR) => KCn e) (fun (e : Int × mR) => False))
def hd_rd_action_142 (c : Nat → Option am_C) (N : Nat) (v1 : Int) (s : Int × mR) (j : Nat → Int) : ag_St af_T := (142, [(0, .ref 178), (1, .int (i32 v1)), (2, .int (i32 (j 2))), (3, .int (i32 s.1))], [], (khp s.2 c, N), 0, 0)
def ex_rd_action_142 (c : Nat → Option am_C) (N : Nat) (v1 : Int) : (Sum (mR) (Int × mR)) → (Nat → Int) → ag_St af_T := (sel (fun (e : mR) (j : Nat → Int) => ((188, [(0, .ref 178), (1, .int (i32 v1)), (2, .int (i32 (j 2))), (3, .int (i32 (j 3)))], [], (khp e c, N), 0, 0) : ag_St af_T)) (fun (e : Int × mR) (j : Nat → Int) => ((0, [], [], (khp e.2 c, N), 0, 0) : ag_St af_T)))
def tx_rd_action_142 (c : Nat → Option am_C) (N : Nat) : (Sum (mR) (Int × mR)) → ag_Re af_T → Prop := (sel (fun (_ : mR) (_ : ag_Re af_T) => False) (fun (e : Int × mR) (r : ag_Re af_T) => ∃ x : Nat, e.1 = x + 1 ∧ KCn e.2 ∧ r = (.inr x, (khp e.2 c, N), 1, 6)))
def kfl_rd_action_188 (v1 : Int) (m : mR) : Option (Int × Int × mR) :=
  bnd (kf_tx_expect 125 (mO m [] [(44, upI (m.2 44) v1 (cut ((m.1 224) - ((m.2 43) v1))))])) fun y3 =>
  if y3.1 = 0 then
    some (0, 0, y3.2.2)
  else
    some (y3.1, 0, y3.2.2)
theorem dg_rd_action_188 (w : wX) (c : Nat → Option am_C) (N D : Nat) (bb : Nat) (v1 : Int) (q1 : R32 v1) (m : mR) (hm : KCn m) (j : Nat → Int) : PP bb w D pm_118 (188, [(0, .ref 178), (1, .int (i32 v1)), (2, .int (i32 (j 2))), (3, .int (i32 (j 3)))], [], (khp m c, N), 0, 0) (QS (FX0 c N) (kfl_rd_action_188 v1 m)) := by
  unfold kfl_rd_action_188
  show PP bb w D pm_118 (188, [(0, .ref 178), (1, .int (i32 v1)), (2, .int (i32 (j 2))), (3, .int (i32 (j 3)))], [], (khp (mO m [] []) c, N), 0, 0) _
  refine P_ld 189 (.ref 178) rfl (fun _ => rfl) ?_
  refine PK_gf 192 (.ref 45) rfl rfl kd_178 rfl rfl rfl ?_
  refine PK_gf 195 (.ref 51) rfl rfl kd_45 rfl rfl rfl ?_
  refine P_ld 196 (.int (i32 v1)) rfl (fun _ => rfl) ?_
  refine P_ld 197 (.ref 178) rfl (fun _ => rfl) ?_
  refine PK_gf 200 (.ref 45) rfl rfl kd_178 rfl rfl rfl ?_
  refine PK_gf 203 (.int (i32 (m.1 224))) rfl rfl kd_45 rfl rfl rfl ?_
  refine P_ld 204 (.ref 178) rfl (fun _ => rfl) ?_
  refine PK_gf 207 (.ref 45) rfl rfl kd_178 rfl rfl rfl ?_
  refine PK_gf 210 (.ref 50) rfl rfl kd_45 rfl rfl rfl ?_
  refine P_ld 211 (.int (i32 v1)) rfl (fun _ => rfl) ?_
  refine PK_iald2 212 43 (m.2 43) rfl rfl rfl q1 rfl ?_
  refine P_op 213 (cut ((m.1 224) - ((m.2 43) v1))) _ rfl (fun _ => rfl) o_sub ?_
  refine PK_iast2 (a' := [(44, upI (m.2 44) v1 (cut ((m.1 224) - ((m.2 43) v1))))]) 214 44 (m.2 44) rfl rfl rfl q1 rfl rfl ?_
  refine P_ld 215 (.ref 178) rfl (fun _ => rfl) ?_
  refine PK_gf 218 (.ref 6) rfl rfl kd_178 rfl rfl rfl ?_
  refine P_ld 220 (.int (i32 125)) rfl (fun _ => rfl) ?_
  refine P_cx0 223 78 [.ref 6, .int (i32 125)] [] rfl (fun _ => rfl) rfl rfl (D_tx_expect w (mO m [] [(44, upI (m.2 44) v1 (cut ((m.1 224) - ((m.2 43) v1))))]) c N D (KCn_mO hm rfl rfl trivial ⟨(kE_ui (KCn_a hm 44) rfl cut_r), trivial⟩) 125 (l32 125 rfl)) (fun y x hm e => ⟨_, rfl, hm, Or.inr ⟨x, e, rfl⟩⟩) (fun y3 n5 => ?_)
  exact P_rx0 rfl rfl n5
def kfl_rd_action_176 (v1 : Int) (v3 : Int) (m : mR) : Option (Sum (Int × mR) (Sum (mR) (Int × mR))) :=
  bnd (kf_rd_statement v1 m) fun y6 =>
  if y6.1 = 0 then
    some (.inl (cut (v3 + 1), y6.2.2))
  else
    some (.inr (.inr (y6.1, y6.2.2)))
theorem dg_rd_action_176 (w : wX) (c : Nat → Option am_C) (N D : Nat) (bb : Nat) (v1 : Int) (v3 : Int) (q1 : R32 v1) (q3 : R32 v3) (m : mR) (hm : KCn m) (j : Nat → Int) (Q2 : Sum (Int × mR) (Sum (mR) (Int × mR)) → ag_Re af_T → Prop) (H1 : ∀ s j, cs_rd_action_142 s → PP bb w D pm_118 (hd_rd_action_142 c N v1 s j) (Q2 (.inl s))) (H2 : ∀ x j, cx_rd_action_142 x → PP bb w D pm_118 (ex_rd_action_142 c N v1 x j) (Q2 (.inr x))) (H3 : ∀ x r, tx_rd_action_142 c N x r → Q2 (.inr x) r) : PP bb w D pm_118 (176, [(0, .ref 178), (1, .int (i32 v1)), (2, .int (i32 (j 2))), (3, .int (i32 v3))], [], (khp m c, N), 0, 0) (QS Q2 (kfl_rd_action_176 v1 v3 m)) := by
  unfold kfl_rd_action_176
  show PP bb w D pm_118 (176, [(0, .ref 178), (1, .int (i32 v1)), (2, .int (i32 (j 2))), (3, .int (i32 v3))], [], (khp (mO m [] []) c, N), 0, 0) _
  refine P_ld 177 (.ref 178) rfl (fun _ => rfl) ?_
  refine P_ld 178 (.int (i32 v1)) rfl (fun _ => rfl) ?_
  refine P_cx1 181 122 [.ref 178, .int (i32 v1)] [] rfl (fun _ => rfl) rfl rfl (D_rd_statement w m c N D hm v1 q1) (fun y x hm e => ⟨_, rfl, H3 _ _ ⟨x, e, hm, rfl⟩⟩) (fun y6 h7 n8 => ?_)
  refine P_pop 182 rfl (fun _ => rfl) ?_
  refine P_inc 185 [(3, .int (i32 (cut (v3 + 1)))), (0, .ref 178), (1, .int (i32 v1)), (2, .int (i32 (j 2)))] rfl rfl (by decide) rfl rfl ?_
  refine P_goto 142 rfl (fun _ => rfl) ?_
  refine P_some ?_
  refine P_lv (b := [(0, .ref 178), (1, .int (i32 v1)), (2, .int (i32 (j 2))), (3, .int (i32 (cut (v3 + 1))))]) rfl rfl ⟨rfl, rfl, rfl, rfl, trivial⟩ ?_
  exact H1 (cut (v3 + 1), y6.2.2) (jk [(2, j 2)]) ⟨cut_r, n8⟩
def kfb_rd_action_142 (v1 : Int) (s : Int × mR) : Option (Sum (Int × mR) (Sum (mR) (Int × mR))) :=
  if (12 : Int) < s.1 then
    some (.inr (.inl s.2))
  else
    bnd (kf_rd_isStatement s.2) fun y11 =>
    if y11 = 0 then
      some (.inr (.inl s.2))
    else
      if s.1 < 12 then
        kfl_rd_action_176 v1 s.1 s.2
      else
        bnd (kf_tx_fail 4 (s.2.1 207) s.2) fun y16 =>
        if y16.1 = 0 then
          kfl_rd_action_176 v1 s.1 y16.2.2
        else
          some (.inr (.inr (y16.1, y16.2.2)))
theorem dh_rd_action_142 (w : wX) (c : Nat → Option am_C) (N D : Nat) (v1 : Int) (q1 : R32 v1) (bb : Nat) (Q2 : Sum (Int × mR) (Sum (mR) (Int × mR)) → ag_Re af_T → Prop) (H1 : ∀ s j, cs_rd_action_142 s → PP bb w D pm_118 (hd_rd_action_142 c N v1 s j) (Q2 (.inl s))) (H2 : ∀ x j, cx_rd_action_142 x → PP bb w D pm_118 (ex_rd_action_142 c N v1 x j) (Q2 (.inr x))) (H3 : ∀ x r, tx_rd_action_142 c N x r → Q2 (.inr x) r) (s : Int × mR) (j : Nat → Int) (hs : cs_rd_action_142 s) : PP (bb + 1) w D pm_118 (hd_rd_action_142 c N v1 s j) (QS Q2 (kfb_rd_action_142 v1 s)) := by
  obtain ⟨g3, gm⟩ := hs
  unfold kfb_rd_action_142
  show PP (bb + 1) w D pm_118 (142, [(0, .ref 178), (1, .int (i32 v1)), (2, .int (i32 (j 2))), (3, .int (i32 s.1))], [], (khp (mO s.2 [] []) c, N), 0, 0) _
  refine P1_ld 143 (.int (i32 s.1)) rfl (fun _ => rfl) ?_
  refine P_ld 145 (.int (i32 12)) rfl (fun _ => rfl) ?_
  refine P_icF 188 148 rfl rfl rfl g3 (l32 12 rfl) rfl (fun h10 => ?_) (fun h10 => ?_)
  · skip
    refine P_some ?_
    exact H2 (.inl s.2) (jk [(2, j 2), (3, s.1)]) gm
  · skip
    refine P_ld 149 (.ref 178) rfl (fun _ => rfl) ?_
    refine P_cp1 152 121 [.ref 178] [] rfl (fun _ => rfl) rfl (D_rd_isStatement w s.2 c N D gm) (fun y11 h12 => ?_)
    refine P_ifF 188 155 rfl rfl rfl h12 rfl (fun h14 => ?_) (fun h14 => ?_)
    · skip
      refine P_some ?_
      exact H2 (.inl s.2) (jk [(2, j 2), (3, s.1)]) gm
    · skip
      refine P_ld 156 (.int (i32 s.1)) rfl (fun _ => rfl) ?_
      refine P_ld 158 (.int (i32 12)) rfl (fun _ => rfl) ?_
      refine P_icF 176 161 rfl rfl rfl g3 (l32 12 rfl) rfl (fun h15 => ?_) (fun h15 => ?_)
      · skip
        exact dg_rd_action_176 w c N D bb v1 s.1 q1 g3 s.2 gm (jk [(2, j 2)]) Q2 H1 H2 H3
      · skip
        refine P_ld 162 (.ref 178) rfl (fun _ => rfl) ?_
        refine PK_gf 165 (.ref 6) rfl rfl kd_178 rfl rfl rfl ?_
        refine P_ld 166 (.int (i32 4)) rfl (fun _ => rfl) ?_
        refine P_ld 167 (.ref 178) rfl (fun _ => rfl) ?_
        refine PK_gf 170 (.ref 6) rfl rfl kd_178 rfl rfl rfl ?_
        refine PK_gf 173 (.int (i32 (s.2.1 207))) rfl rfl kd_6 rfl rfl rfl ?_
        refine P_cx0 176 51 [.ref 6, .int (i32 4), .int (i32 (s.2.1 207))] [] rfl (fun _ => rfl) rfl rfl (D_tx_fail w s.2 c N D gm 4 (s.2.1 207) (l32 4 rfl) (KCn_i gm 207 rfl)) (fun y x hm e => ⟨_, rfl, H3 _ _ ⟨x, e, hm, rfl⟩⟩) (fun y16 n18 => ?_)
        exact dg_rd_action_176 w c N D bb v1 s.1 q1 g3 y16.2.2 n18 (jk [(2, j 2)]) Q2 H1 H2 H3
def kfl_rd_action_106 (v1 : Int) (m : mR) : Option (Int × Int × mR) :=
  bnd (kf_tx_expect 41 m) fun y19 =>
  if y19.1 = 0 then
    bnd (kf_tx_expect 123 y19.2.2) fun y22 =>
    if y22.1 = 0 then
      bnd (whl (kfb_rd_action_142 v1) (0, (mO y22.2.2 [] [(43, upI (y22.2.2.2 43) v1 (y22.2.2.1 224))]))) (sel
        (fun e25 : mR =>
          kfl_rd_action_188 v1 e25)
        (fun e28 : Int × mR =>
          some (e28.1, 0, e28.2)))
    else
      some (y22.1, 0, y22.2.2)
  else
    some (y19.1, 0, y19.2.2)
theorem dg_rd_action_106 (w : wX) (c : Nat → Option am_C) (N D : Nat) (bb : Nat) (v1 : Int) (q1 : R32 v1) (m : mR) (hm : KCn m) (j : Nat → Int) : PP bb w D pm_118 (106, [(0, .ref 178), (1, .int (i32 v1)), (2, .int (i32 (j 2))), (3, .int (i32 (j 3)))], [], (khp m c, N), 0, 0) (QS (FX0 c N) (kfl_rd_action_106 v1 m)) := by
  unfold kfl_rd_action_106
  show PP bb w D pm_118 (106, [(0, .ref 178), (1, .int (i32 v1)), (2, .int (i32 (j 2))), (3, .int (i32 (j 3)))], [], (khp (mO m [] []) c, N), 0, 0) _
  refine P_ld 107 (.ref 178) rfl (fun _ => rfl) ?_
  refine PK_gf 110 (.ref 6) rfl rfl kd_178 rfl rfl rfl ?_
  refine P_ld 112 (.int (i32 41)) rfl (fun _ => rfl) ?_
  refine P_cx0 115 78 [.ref 6, .int (i32 41)] [] rfl (fun _ => rfl) rfl rfl (D_tx_expect w m c N D hm 41 (l32 41 rfl)) (fun y x hm e => ⟨_, rfl, hm, Or.inr ⟨x, e, rfl⟩⟩) (fun y19 n21 => ?_)
  refine P_ld 116 (.ref 178) rfl (fun _ => rfl) ?_
  refine PK_gf 119 (.ref 6) rfl rfl kd_178 rfl rfl rfl ?_
  refine P_ld 121 (.int (i32 123)) rfl (fun _ => rfl) ?_
  refine P_cx0 124 78 [.ref 6, .int (i32 123)] [] rfl (fun _ => rfl) rfl rfl (D_tx_expect w y19.2.2 c N D n21 123 (l32 123 rfl)) (fun y x hm e => ⟨_, rfl, hm, Or.inr ⟨x, e, rfl⟩⟩) (fun y22 n24 => ?_)
  refine P_ld 125 (.ref 178) rfl (fun _ => rfl) ?_
  refine PK_gf 128 (.ref 45) rfl rfl kd_178 rfl rfl rfl ?_
  refine PK_gf 131 (.ref 50) rfl rfl kd_45 rfl rfl rfl ?_
  refine P_ld 132 (.int (i32 v1)) rfl (fun _ => rfl) ?_
  refine P_ld 133 (.ref 178) rfl (fun _ => rfl) ?_
  refine PK_gf 136 (.ref 45) rfl rfl kd_178 rfl rfl rfl ?_
  refine PK_gf 139 (.int (i32 (y22.2.2.1 224))) rfl rfl kd_45 rfl rfl rfl ?_
  refine PK_iast2 (a' := [(43, upI (y22.2.2.2 43) v1 (y22.2.2.1 224))]) 140 43 (y22.2.2.2 43) rfl rfl rfl q1 rfl rfl ?_
  refine P_ld 141 (.int (i32 0)) rfl (fun _ => rfl) ?_
  refine P_sto 142 [(3, .int (i32 0)), (0, .ref 178), (1, .int (i32 v1)), (2, .int (i32 (j 2)))] rfl (fun _ => rfl) ?_
  refine P_lv (b := [(0, .ref 178), (1, .int (i32 v1)), (2, .int (i32 (j 2))), (3, .int (i32 0))]) rfl rfl ⟨rfl, rfl, rfl, rfl, trivial⟩ ?_
  refine P_bnd ?_
  refine P_whlx (TX := tx_rd_action_142 c N) (fun bb Q2 H1 H2 H3 s9 j9 hs9 => dh_rd_action_142 w c N D v1 q1 bb Q2 H1 H2 H3 s9 j9 hs9) bb (fun x r hr => ?_) (fun x0 j hx0 => ?_) (0, (mO y22.2.2 [] [(43, upI (y22.2.2.2 43) v1 (y22.2.2.1 224))])) (jk [(2, j 2)]) ⟨(l32 0 rfl), (KCn_mO n24 rfl rfl trivial ⟨(kE_ui (KCn_a n24 43) rfl (KCn_i n24 224 rfl)), trivial⟩)⟩
  · skip
    cases x with
    | inl e => exact False.elim hr
    | inr x =>
      obtain ⟨x9, e9, k9, rfl⟩ := hr
      exact ⟨_, rfl, k9, Or.inr ⟨x9, e9, rfl⟩⟩
  cases x0 with
  | inl e25 =>
    have q26 := hx0
    have q27 := q26
    show PP bb w D pm_118 (188, [(0, .ref 178), (1, .int (i32 v1)), (2, .int (i32 (j 2))), (3, .int (i32 (j 3)))], [], (khp (mO e25 [] []) c, N), 0, 0) (QS _ (kfl_rd_action_188 v1 e25))
    exact dg_rd_action_188 w c N D bb v1 q1 e25 q27 (jk [(2, j 2), (3, j 3)])
  | inr e28 =>
    have q29 := hx0
    have q29 := q29
    exact False.elim q29
def kfb_rd_action_80 (v1 : Int) (s : Int × Int × mR) : Option (Sum (Int × Int × mR) (Sum (mR) (Int × mR))) :=
  if (4 : Int) < s.2.1 then
    some (.inr (.inl s.2.2))
  else
    if s.1 = 0 then
      some (.inr (.inl s.2.2))
    else
      bnd (kf_rd_parameter v1 s.2.1 s.2.2) fun y33 =>
      if y33.1 = 0 then
        bnd (kf_rd_goesOnList y33.2.2) fun y36 =>
        if y36.1 = 0 then
          some (.inl (y36.2.1, cut (s.2.1 + 1), y36.2.2))
        else
          some (.inr (.inr (y36.1, y36.2.2)))
      else
        some (.inr (.inr (y33.1, y33.2.2)))
theorem dh_rd_action_80 (w : wX) (c : Nat → Option am_C) (N D : Nat) (v1 : Int) (q1 : R32 v1) (bb : Nat) (Q2 : Sum (Int × Int × mR) (Sum (mR) (Int × mR)) → ag_Re af_T → Prop) (H1 : ∀ s j, cs_rd_action_80 s → PP bb w D pm_118 (hd_rd_action_80 c N v1 s j) (Q2 (.inl s))) (H2 : ∀ x j, cx_rd_action_80 x → PP bb w D pm_118 (ex_rd_action_80 c N v1 x j) (Q2 (.inr x))) (H3 : ∀ x r, tx_rd_action_80 c N x r → Q2 (.inr x) r) (s : Int × Int × mR) (j : Nat → Int) (hs : cs_rd_action_80 s) : PP (bb + 1) w D pm_118 (hd_rd_action_80 c N v1 s j) (QS Q2 (kfb_rd_action_80 v1 s)) := by
  obtain ⟨g2, g3, gm⟩ := hs
  unfold kfb_rd_action_80
  show PP (bb + 1) w D pm_118 (80, [(0, .ref 178), (1, .int (i32 v1)), (2, .int (i32 s.1)), (3, .int (i32 s.2.1))], [], (khp (mO s.2.2 [] []) c, N), 0, 0) _
  refine P1_ld 81 (.int (i32 s.2.1)) rfl (fun _ => rfl) ?_
  refine P_ld 82 (.int (i32 4)) rfl (fun _ => rfl) ?_
  refine P_icF 106 85 rfl rfl rfl g3 (l32 4 rfl) rfl (fun h31 => ?_) (fun h31 => ?_)
  · skip
    refine P_some ?_
    exact H2 (.inl s.2.2) (jk [(2, s.1), (3, s.2.1)]) gm
  · skip
    refine P_ld 86 (.int (i32 s.1)) rfl (fun _ => rfl) ?_
    refine P_ifF 106 89 rfl rfl rfl g2 rfl (fun h32 => ?_) (fun h32 => ?_)
    · skip
      refine P_some ?_
      exact H2 (.inl s.2.2) (jk [(2, s.1), (3, s.2.1)]) gm
    · skip
      refine P_ld 90 (.ref 178) rfl (fun _ => rfl) ?_
      refine P_ld 91 (.int (i32 v1)) rfl (fun _ => rfl) ?_
      refine P_ld 92 (.int (i32 s.2.1)) rfl (fun _ => rfl) ?_
      refine P_cx0 95 119 [.ref 178, .int (i32 v1), .int (i32 s.2.1)] [] rfl (fun _ => rfl) rfl rfl (D_rd_parameter w s.2.2 c N D gm v1 s.2.1 q1 g3) (fun y x hm e => ⟨_, rfl, H3 _ _ ⟨x, e, hm, rfl⟩⟩) (fun y33 n35 => ?_)
      refine P_ld 96 (.ref 178) rfl (fun _ => rfl) ?_
      refine P_cx1 99 120 [.ref 178] [] rfl (fun _ => rfl) rfl rfl (D_rd_goesOnList w y33.2.2 c N D n35) (fun y x hm e => ⟨_, rfl, H3 _ _ ⟨x, e, hm, rfl⟩⟩) (fun y36 h37 n38 => ?_)
      refine P_sto 100 [(2, .int (i32 y36.2.1)), (0, .ref 178), (1, .int (i32 v1)), (3, .int (i32 s.2.1))] rfl (fun _ => rfl) ?_
      refine P_inc 103 [(3, .int (i32 (cut (s.2.1 + 1)))), (2, .int (i32 y36.2.1)), (0, .ref 178), (1, .int (i32 v1))] rfl rfl (by decide) rfl rfl ?_
      refine P_goto 80 rfl (fun _ => rfl) ?_
      refine P_some ?_
      refine P_lv (b := [(0, .ref 178), (1, .int (i32 v1)), (2, .int (i32 y36.2.1)), (3, .int (i32 (cut (s.2.1 + 1))))]) rfl rfl ⟨rfl, rfl, rfl, rfl, trivial⟩ ?_
      exact H1 (y36.2.1, cut (s.2.1 + 1), y36.2.2) (jk []) ⟨h37, cut_r, n38⟩
def kfl_rd_action_77 (v1 : Int) (u0 : Int) (m : mR) : Option (Int × Int × mR) :=
  bnd (whl (kfb_rd_action_80 v1) (u0, 0, m)) (sel
    (fun e39 : mR =>
      kfl_rd_action_106 v1 e39)
    (fun e42 : Int × mR =>
      some (e42.1, 0, e42.2)))
theorem dg_rd_action_77 (w : wX) (c : Nat → Option am_C) (N D : Nat) (bb : Nat) (v1 : Int) (u0 : Int) (q1 : R32 v1) (r0 : R32 u0) (m : mR) (hm : KCn m) (j : Nat → Int) : PP bb w D pm_118 (77, [(0, .ref 178), (1, .int (i32 v1))], [.int (i32 u0)], (khp m c, N), 0, 0) (QS (FX0 c N) (kfl_rd_action_77 v1 u0 m)) := by
  unfold kfl_rd_action_77
  show PP bb w D pm_118 (77, [(0, .ref 178), (1, .int (i32 v1))], [.int (i32 u0)], (khp (mO m [] []) c, N), 0, 0) _
  refine P_sto 78 [(2, .int (i32 u0)), (0, .ref 178), (1, .int (i32 v1))] rfl (fun _ => rfl) ?_
  refine P_ld 79 (.int (i32 0)) rfl (fun _ => rfl) ?_
  refine P_sto 80 [(3, .int (i32 0)), (2, .int (i32 u0)), (0, .ref 178), (1, .int (i32 v1))] rfl (fun _ => rfl) ?_
  refine P_lv (b := [(0, .ref 178), (1, .int (i32 v1)), (2, .int (i32 u0)), (3, .int (i32 0))]) rfl rfl ⟨rfl, rfl, rfl, rfl, trivial⟩ ?_
  refine P_bnd ?_
  refine P_whlx (TX := tx_rd_action_80 c N) (fun bb Q2 H1 H2 H3 s9 j9 hs9 => dh_rd_action_80 w c N D v1 q1 bb Q2 H1 H2 H3 s9 j9 hs9) bb (fun x r hr => ?_) (fun x0 j hx0 => ?_) (u0, 0, m) (jk []) ⟨r0, (l32 0 rfl), hm⟩
  · skip
    cases x with
    | inl e => exact False.elim hr
    | inr x =>
      obtain ⟨x9, e9, k9, rfl⟩ := hr
      exact ⟨_, rfl, k9, Or.inr ⟨x9, e9, rfl⟩⟩
  cases x0 with
  | inl e39 =>
    have q40 := hx0
    have q41 := q40
    show PP bb w D pm_118 (106, [(0, .ref 178), (1, .int (i32 v1)), (2, .int (i32 (j 2))), (3, .int (i32 (j 3)))], [], (khp (mO e39 [] []) c, N), 0, 0) (QS _ (kfl_rd_action_106 v1 e39))
    exact dg_rd_action_106 w c N D bb v1 q1 e39 q41 (jk [(2, j 2), (3, j 3)])
  | inr e42 =>
    have q43 := hx0
    have q43 := q43
    exact False.elim q43
def kf_rd_action (m : mR) : Option (Int × Int × mR) :=
  bnd (kf_tx_advance m) fun y44 =>
  if y44.1 = 0 then
    bnd (kf_tx_makeNew 309 (y44.2.2.1 223) 16 y44.2.2) fun y47 =>
    if y47.1 = 0 then
      bnd (kf_tx_expect 40 (mO y47.2.2 [(223, cut ((y47.2.2.1 223) + 1))] [(39, upI (y47.2.2.2 39) (y44.2.2.1 223) 0)])) fun y50 =>
      if y50.1 = 0 then
        if y50.2.2.1 206 = 41 then
          kfl_rd_action_77 (y44.2.2.1 223) 0 y50.2.2
        else
          kfl_rd_action_77 (y44.2.2.1 223) 1 y50.2.2
      else
        some (y50.1, 0, y50.2.2)
    else
      some (y47.1, 0, y47.2.2)
  else
    some (y44.1, 0, y44.2.2)
theorem D_rd_action (w : wX) (m : mR) (c : Nat → Option am_C) (N D : Nat) (hm : KCn m) : PC w D 118 [.ref 178] (khp m c, N) (QS (FX0 c N) (kf_rd_action m)) := by
  refine Pc_of (fun D bb => ?_) D
  unfold kf_rd_action
  show PP bb w D pm_118 (0, [(0, .ref 178)], [], (khp (mO m [] []) c, N), 0, 0) _
  refine P_ld 1 (.ref 178) rfl (fun _ => rfl) ?_
  refine PK_gf 4 (.ref 6) rfl rfl kd_178 rfl rfl rfl ?_
  refine P_cx0 7 50 [.ref 6] [] rfl (fun _ => rfl) rfl rfl (D_tx_advance w m c N D hm) (fun y x hm e => ⟨_, rfl, hm, Or.inr ⟨x, e, rfl⟩⟩) (fun y44 n46 => ?_)
  refine P_ld 8 (.ref 178) rfl (fun _ => rfl) ?_
  refine PK_gf 11 (.ref 45) rfl rfl kd_178 rfl rfl rfl ?_
  refine PK_gf 14 (.int (i32 (y44.2.2.1 223))) rfl rfl kd_45 rfl rfl rfl ?_
  refine P_sto 15 [(1, .int (i32 (y44.2.2.1 223))), (0, .ref 178)] rfl (fun _ => rfl) ?_
  refine P_ld 16 (.ref 178) rfl (fun _ => rfl) ?_
  refine PK_gf 19 (.ref 6) rfl rfl kd_178 rfl rfl rfl ?_
  refine P_ld 22 (.int (i32 309)) rfl (fun _ => rfl) ?_
  refine P_ld 23 (.int (i32 (y44.2.2.1 223))) rfl (fun _ => rfl) ?_
  refine P_ld 25 (.int (i32 16)) rfl (fun _ => rfl) ?_
  refine P_cx0 28 75 [.ref 6, .int (i32 309), .int (i32 (y44.2.2.1 223)), .int (i32 16)] [] rfl (fun _ => rfl) rfl rfl (D_tx_makeNew w y44.2.2 c N D n46 309 (y44.2.2.1 223) 16 (l32 309 rfl) (KCn_i n46 223 rfl) (l32 16 rfl)) (fun y x hm e => ⟨_, rfl, hm, Or.inr ⟨x, e, rfl⟩⟩) (fun y47 n49 => ?_)
  refine P_ld 29 (.ref 178) rfl (fun _ => rfl) ?_
  refine PK_gf 32 (.ref 45) rfl rfl kd_178 rfl rfl rfl ?_
  refine P_ld 33 (.ref 45) rfl (fun _ => rfl) ?_
  refine PK_gf 36 (.int (i32 (y47.2.2.1 223))) rfl rfl kd_45 rfl rfl rfl ?_
  refine P_ld 37 (.int (i32 1)) rfl (fun _ => rfl) ?_
  refine P_op 38 (cut ((y47.2.2.1 223) + 1)) _ rfl (fun _ => rfl) o_add ?_
  refine PK_pf (l' := [(223, cut ((y47.2.2.1 223) + 1))]) 41 (cut ((y47.2.2.1 223) + 1)) rfl rfl kd_45 rfl rfl rfl rfl rfl rfl rfl ?_
  refine P_ld 42 (.ref 178) rfl (fun _ => rfl) ?_
  refine PK_gf 45 (.ref 45) rfl rfl kd_178 rfl rfl rfl ?_
  refine PK_gf 48 (.ref 46) rfl rfl kd_45 rfl rfl rfl ?_
  refine P_ld 49 (.int (i32 (y44.2.2.1 223))) rfl (fun _ => rfl) ?_
  refine P_ld 50 (.int (i32 0)) rfl (fun _ => rfl) ?_
  refine PK_iast2 (a' := [(39, upI (y47.2.2.2 39) (y44.2.2.1 223) 0)]) 51 39 (y47.2.2.2 39) rfl rfl rfl (KCn_i n46 223 rfl) rfl rfl ?_
  refine P_ld 52 (.ref 178) rfl (fun _ => rfl) ?_
  refine PK_gf 55 (.ref 6) rfl rfl kd_178 rfl rfl rfl ?_
  refine P_ld 57 (.int (i32 40)) rfl (fun _ => rfl) ?_
  refine P_cx0 60 78 [.ref 6, .int (i32 40)] [] rfl (fun _ => rfl) rfl rfl (D_tx_expect w (mO y47.2.2 [(223, cut ((y47.2.2.1 223) + 1))] [(39, upI (y47.2.2.2 39) (y44.2.2.1 223) 0)]) c N D (KCn_mO n49 rfl rfl ⟨(kV_i rfl cut_r), trivial⟩ ⟨(kE_ui (KCn_a n49 39) rfl (l32 0 rfl)), trivial⟩) 40 (l32 40 rfl)) (fun y x hm e => ⟨_, rfl, hm, Or.inr ⟨x, e, rfl⟩⟩) (fun y50 n52 => ?_)
  refine P_ld 61 (.ref 178) rfl (fun _ => rfl) ?_
  refine PK_gf 64 (.ref 6) rfl rfl kd_178 rfl rfl rfl ?_
  refine PK_gf 67 (.int (i32 (y50.2.2.1 206))) rfl rfl kd_6 rfl rfl rfl ?_
  refine P_ld 69 (.int (i32 41)) rfl (fun _ => rfl) ?_
  refine P_icF 76 72 rfl rfl rfl (KCn_i n52 206 rfl) (l32 41 rfl) rfl (fun h53 => ?_) (fun h53 => ?_)
  · skip
    refine P_ld 77 (.int (i32 0)) rfl (fun _ => rfl) ?_
    refine P_lv (b := [(0, .ref 178), (1, .int (i32 (y44.2.2.1 223)))]) rfl rfl ⟨rfl, rfl, trivial⟩ ?_
    exact dg_rd_action_77 w c N D bb (y44.2.2.1 223) 0 (KCn_i n46 223 rfl) (l32 0 rfl) y50.2.2 n52 (jk [])
  · skip
    refine P_ld 73 (.int (i32 1)) rfl (fun _ => rfl) ?_
    refine P_goto 77 rfl (fun _ => rfl) ?_
    refine P_lv (b := [(0, .ref 178), (1, .int (i32 (y44.2.2.1 223)))]) rfl rfl ⟨rfl, rfl, trivial⟩ ?_
    exact dg_rd_action_77 w c N D bb (y44.2.2.1 223) 1 (KCn_i n46 223 rfl) (l32 1 rfl) y50.2.2 n52 (jk [])
def kf_ss_add (v1 : Int) (m : mR) : Option (Int × mR) :=
  some (m.1 221, (mO m [(221, cut ((m.1 221) + 1))] [(26, upI (m.2 26) (m.1 221) 0), (29, upI (m.2 29) (m.1 221) (-1)), (30, upI (m.2 30) (m.1 221) 0), (35, upI (m.2 35) (m.1 221) v1), (36, upI (m.2 36) (m.1 221) (-1))]))
theorem D_ss_add (w : wX) (m : mR) (c : Nat → Option am_C) (N D : Nat) (hm : KCn m) (v1 : Int) (q1 : R32 v1) : PC w D 88 [.ref 31, .int (i32 v1)] (khp m c, N) (QS (FK1 c N) (kf_ss_add v1 m)) := by
  refine Pc_of (fun D bb => ?_) D
  unfold kf_ss_add
  show PP bb w D pm_88 (0, [(0, .ref 31), (1, .int (i32 v1))], [], (khp (mO m [] []) c, N), 0, 0) _
  refine P_ld 1 (.ref 31) rfl (fun _ => rfl) ?_
  refine PK_gf 4 (.int (i32 (m.1 221))) rfl rfl kd_31 rfl rfl rfl ?_
  refine P_sto 5 [(2, .int (i32 (m.1 221))), (0, .ref 31), (1, .int (i32 v1))] rfl (fun _ => rfl) ?_
  refine P_ld 6 (.ref 31) rfl (fun _ => rfl) ?_
  refine PK_gf 9 (.ref 32) rfl rfl kd_31 rfl rfl rfl ?_
  refine P_ld 10 (.int (i32 (m.1 221))) rfl (fun _ => rfl) ?_
  refine P_ld 11 (.int (i32 0)) rfl (fun _ => rfl) ?_
  refine PK_iast2 (a' := [(26, upI (m.2 26) (m.1 221) 0)]) 12 26 (m.2 26) rfl rfl rfl (KCn_i hm 221 rfl) rfl rfl ?_
  refine P_ld 13 (.ref 31) rfl (fun _ => rfl) ?_
  refine PK_gf 16 (.ref 36) rfl rfl kd_31 rfl rfl rfl ?_
  refine P_ld 17 (.int (i32 (m.1 221))) rfl (fun _ => rfl) ?_
  refine P_ld 18 (.int (i32 0)) rfl (fun _ => rfl) ?_
  refine PK_iast2 (a' := [(26, upI (m.2 26) (m.1 221) 0), (30, upI (m.2 30) (m.1 221) 0)]) 19 30 (m.2 30) rfl rfl rfl (KCn_i hm 221 rfl) rfl rfl ?_
  refine P_ld 20 (.ref 31) rfl (fun _ => rfl) ?_
  refine PK_gf 23 (.ref 35) rfl rfl kd_31 rfl rfl rfl ?_
  refine P_ld 24 (.int (i32 (m.1 221))) rfl (fun _ => rfl) ?_
  refine P_ld 25 (.int (i32 (-1))) rfl (fun _ => rfl) ?_
  refine PK_iast2 (a' := [(26, upI (m.2 26) (m.1 221) 0), (29, upI (m.2 29) (m.1 221) (-1)), (30, upI (m.2 30) (m.1 221) 0)]) 26 29 (m.2 29) rfl rfl rfl (KCn_i hm 221 rfl) rfl rfl ?_
  refine P_ld 27 (.ref 31) rfl (fun _ => rfl) ?_
  refine PK_gf 30 (.ref 41) rfl rfl kd_31 rfl rfl rfl ?_
  refine P_ld 31 (.int (i32 (m.1 221))) rfl (fun _ => rfl) ?_
  refine P_ld 32 (.int (i32 v1)) rfl (fun _ => rfl) ?_
  refine PK_iast2 (a' := [(26, upI (m.2 26) (m.1 221) 0), (29, upI (m.2 29) (m.1 221) (-1)), (30, upI (m.2 30) (m.1 221) 0), (35, upI (m.2 35) (m.1 221) v1)]) 33 35 (m.2 35) rfl rfl rfl (KCn_i hm 221 rfl) rfl rfl ?_
  refine P_ld 34 (.ref 31) rfl (fun _ => rfl) ?_
  refine PK_gf 37 (.ref 42) rfl rfl kd_31 rfl rfl rfl ?_
  refine P_ld 38 (.int (i32 (m.1 221))) rfl (fun _ => rfl) ?_
  refine P_ld 39 (.int (i32 (-1))) rfl (fun _ => rfl) ?_
  refine PK_iast2 (a' := [(26, upI (m.2 26) (m.1 221) 0), (29, upI (m.2 29) (m.1 221) (-1)), (30, upI (m.2 30) (m.1 221) 0), (35, upI (m.2 35) (m.1 221) v1), (36, upI (m.2 36) (m.1 221) (-1))]) 40 36 (m.2 36) rfl rfl rfl (KCn_i hm 221 rfl) rfl rfl ?_
  refine P_ld 41 (.ref 31) rfl (fun _ => rfl) ?_
  refine P_ld 42 (.ref 31) rfl (fun _ => rfl) ?_
  refine PK_gf 45 (.int (i32 (m.1 221))) rfl rfl kd_31 rfl rfl rfl ?_
  refine P_ld 46 (.int (i32 1)) rfl (fun _ => rfl) ?_
  refine P_op 47 (cut ((m.1 221) + 1)) _ rfl (fun _ => rfl) o_add ?_
  refine PK_pf (l' := [(221, cut ((m.1 221) + 1))]) 50 (cut ((m.1 221) + 1)) rfl rfl kd_31 rfl rfl rfl rfl rfl rfl rfl ?_
  refine P_ld 51 (.int (i32 (m.1 221))) rfl (fun _ => rfl) ?_
  exact P_rk1 rfl (KCn_i hm 221 rfl) (KCn_mO hm rfl rfl ⟨(kV_i rfl cut_r), trivial⟩ ⟨(kE_ui (KCn_a hm 26) rfl (l32 0 rfl)), (kE_ui (KCn_a hm 29) rfl (l32 (-1) rfl)), (kE_ui (KCn_a hm 30) rfl (l32 0 rfl)), (kE_ui (KCn_a hm 35) rfl q1), (kE_ui (KCn_a hm 36) rfl (l32 (-1) rfl)), trivial⟩)
def kf_ss_stand (v1 : Int) (v2 : Int) (m : mR) : Option (Int × mR) :=
  some (0, (mO m [(222, cut ((m.1 222) + 1))] [(36, upI (m.2 36) v1 v2), (37, upI (m.2 37) (m.1 222) v1)]))
theorem D_ss_stand (w : wX) (m : mR) (c : Nat → Option am_C) (N D : Nat) (hm : KCn m) (v1 : Int) (v2 : Int) (q1 : R32 v1) (q2 : R32 v2) : PC w D 89 [.ref 31, .int (i32 v1), .int (i32 v2)] (khp m c, N) (QS (FK0 c N) (kf_ss_stand v1 v2 m)) := by
  refine Pc_of (fun D bb => ?_) D
  unfold kf_ss_stand
  show PP bb w D pm_89 (0, [(0, .ref 31), (1, .int (i32 v1)), (2, .int (i32 v2))], [], (khp (mO m [] []) c, N), 0, 0) _
  refine P_ld 1 (.ref 31) rfl (fun _ => rfl) ?_
  refine PK_gf 4 (.ref 42) rfl rfl kd_31 rfl rfl rfl ?_
  refine P_ld 5 (.int (i32 v1)) rfl (fun _ => rfl) ?_
  refine P_ld 6 (.int (i32 v2)) rfl (fun _ => rfl) ?_
  refine PK_iast2 (a' := [(36, upI (m.2 36) v1 v2)]) 7 36 (m.2 36) rfl rfl rfl q1 rfl rfl ?_
  refine P_ld 8 (.ref 31) rfl (fun _ => rfl) ?_
  refine PK_gf 11 (.ref 43) rfl rfl kd_31 rfl rfl rfl ?_
  refine P_ld 12 (.ref 31) rfl (fun _ => rfl) ?_
  refine PK_gf 15 (.int (i32 (m.1 222))) rfl rfl kd_31 rfl rfl rfl ?_
  refine P_ld 16 (.int (i32 v1)) rfl (fun _ => rfl) ?_
  refine PK_iast2 (a' := [(36, upI (m.2 36) v1 v2), (37, upI (m.2 37) (m.1 222) v1)]) 17 37 (m.2 37) rfl rfl rfl (KCn_i hm 222 rfl) rfl rfl ?_
  refine P_ld 18 (.ref 31) rfl (fun _ => rfl) ?_
  refine P_ld 19 (.ref 31) rfl (fun _ => rfl) ?_
  refine PK_gf 22 (.int (i32 (m.1 222))) rfl rfl kd_31 rfl rfl rfl ?_
  refine P_ld 23 (.int (i32 1)) rfl (fun _ => rfl) ?_
  refine P_op 24 (cut ((m.1 222) + 1)) _ rfl (fun _ => rfl) o_add ?_
  refine PK_pf (l' := [(222, cut ((m.1 222) + 1))]) 27 (cut ((m.1 222) + 1)) rfl rfl kd_31 rfl rfl rfl rfl rfl rfl rfl ?_
  exact P_rk0 rfl rfl (KCn_mO hm rfl rfl ⟨(kV_i rfl cut_r), trivial⟩ ⟨(kE_ui (KCn_a hm 36) rfl q2), (kE_ui (KCn_a hm 37) rfl q1), trivial⟩)
def kfl_rd_goal_24 (m : mR) : Option (Int × Int × mR) :=
  bnd (kf_tx_known 304 m) fun y1 =>
  if y1.1 = 0 then
    some (0, y1.2.1, y1.2.2)
  else
    some (y1.1, 0, y1.2.2)
theorem dg_rd_goal_24 (w : wX) (c : Nat → Option am_C) (N D : Nat) (bb : Nat) (m : mR) (hm : KCn m) (j : Nat → Int) : PP bb w D pm_117 (24, [(0, .ref 178)], [], (khp m c, N), 0, 0) (QS (FX1 c N) (kfl_rd_goal_24 m)) := by
  unfold kfl_rd_goal_24
  show PP bb w D pm_117 (24, [(0, .ref 178)], [], (khp (mO m [] []) c, N), 0, 0) _
  refine P_ld 25 (.ref 178) rfl (fun _ => rfl) ?_
  refine PK_gf 28 (.ref 6) rfl rfl kd_178 rfl rfl rfl ?_
  refine P_ld 31 (.int (i32 304)) rfl (fun _ => rfl) ?_
  refine P_cx1 34 83 [.ref 6, .int (i32 304)] [] rfl (fun _ => rfl) rfl rfl (D_tx_known w m c N D hm 304 (l32 304 rfl)) (fun y x hm e => ⟨_, rfl, hm, Or.inr ⟨x, e, rfl⟩⟩) (fun y1 h2 n3 => ?_)
  exact P_rx1 rfl h2 n3
def kf_rd_goal (m : mR) : Option (Int × Int × mR) :=
  if m.1 206 = 256 then
    bnd (kf_tx_find m) fun y5 =>
    if y5 = (-1) then
      bnd (kf_tx_makeNew 304 (m.1 221) 16 m) fun y9 =>
      if y9.1 = 0 then
        bnd (kf_ss_add (m.1 207) y9.2.2) fun y12 =>
        some (0, y12.1, y12.2)
      else
        some (y9.1, 0, y9.2.2)
    else
      kfl_rd_goal_24 m
  else
    kfl_rd_goal_24 m
theorem D_rd_goal (w : wX) (m : mR) (c : Nat → Option am_C) (N D : Nat) (hm : KCn m) : PC w D 117 [.ref 178] (khp m c, N) (QS (FX1 c N) (kf_rd_goal m)) := by
  refine Pc_of (fun D bb => ?_) D
  unfold kf_rd_goal
  show PP bb w D pm_117 (0, [(0, .ref 178)], [], (khp (mO m [] []) c, N), 0, 0) _
  refine P_ld 1 (.ref 178) rfl (fun _ => rfl) ?_
  refine PK_gf 4 (.ref 6) rfl rfl kd_178 rfl rfl rfl ?_
  refine PK_gf 7 (.int (i32 (m.1 206))) rfl rfl kd_6 rfl rfl rfl ?_
  refine P_ld 10 (.int (i32 256)) rfl (fun _ => rfl) ?_
  refine P_icE 24 13 rfl rfl rfl (KCn_i hm 206 rfl) (l32 256 rfl) rfl (fun h4 => ?_) (fun h4 => ?_)
  · skip
    refine P_ld 14 (.ref 178) rfl (fun _ => rfl) ?_
    refine PK_gf 17 (.ref 6) rfl rfl kd_178 rfl rfl rfl ?_
    refine P_cp1 20 77 [.ref 6] [] rfl (fun _ => rfl) rfl (D_tx_find w m c N D hm) (fun y5 h6 => ?_)
    refine P_ld 21 (.int (i32 (-1))) rfl (fun _ => rfl) ?_
    refine P_icF 35 24 rfl rfl rfl h6 (l32 (-1) rfl) rfl (fun h8 => ?_) (fun h8 => ?_)
    · skip
      refine P_ld 36 (.ref 178) rfl (fun _ => rfl) ?_
      refine PK_gf 39 (.ref 6) rfl rfl kd_178 rfl rfl rfl ?_
      refine PK_gf 42 (.int (i32 (m.1 207))) rfl rfl kd_6 rfl rfl rfl ?_
      refine P_sto 43 [(1, .int (i32 (m.1 207))), (0, .ref 178)] rfl (fun _ => rfl) ?_
      refine P_ld 44 (.ref 178) rfl (fun _ => rfl) ?_
      refine PK_gf 47 (.ref 6) rfl rfl kd_178 rfl rfl rfl ?_
      refine P_ld 50 (.int (i32 304)) rfl (fun _ => rfl) ?_
      refine P_ld 51 (.ref 178) rfl (fun _ => rfl) ?_
      refine PK_gf 54 (.ref 31) rfl rfl kd_178 rfl rfl rfl ?_
      refine PK_gf 57 (.int (i32 (m.1 221))) rfl rfl kd_31 rfl rfl rfl ?_
      refine P_ld 59 (.int (i32 16)) rfl (fun _ => rfl) ?_
      refine P_cx0 62 75 [.ref 6, .int (i32 304), .int (i32 (m.1 221)), .int (i32 16)] [] rfl (fun _ => rfl) rfl rfl (D_tx_makeNew w m c N D hm 304 (m.1 221) 16 (l32 304 rfl) (KCn_i hm 221 rfl) (l32 16 rfl)) (fun y x hm e => ⟨_, rfl, hm, Or.inr ⟨x, e, rfl⟩⟩) (fun y9 n11 => ?_)
      refine P_ld 63 (.ref 178) rfl (fun _ => rfl) ?_
      refine PK_gf 66 (.ref 31) rfl rfl kd_178 rfl rfl rfl ?_
      refine P_ld 67 (.int (i32 (m.1 207))) rfl (fun _ => rfl) ?_
      refine P_ck1 70 88 [.ref 31, .int (i32 (m.1 207))] [] rfl (fun _ => rfl) rfl (D_ss_add w y9.2.2 c N D n11 (m.1 207) (KCn_i hm 207 rfl)) (fun y12 h13 n14 => ?_)
      exact P_rx1 rfl h13 n14
    · skip
      exact dg_rd_goal_24 w c N D bb m hm (jk [])
  · skip
    exact dg_rd_goal_24 w c N D bb m hm (jk [])
def kfl_rd_selectCase_92 (v1 : Int) (v2 : Int) (v4 : Int) (m : mR) : Option (Int × Int × mR) :=
  bnd (kf_tx_expect 58 m) fun y1 =>
  if y1.1 = 0 then
    bnd (kf_rd_goal y1.2.2) fun y4 =>
    if y4.1 = 0 then
      bnd (kf_tx_expect 59 (mO y4.2.2 [] [(30, upI (y4.2.2.2 30) v1 (cut (v2 + 1))), (33, upI (y4.2.2.2 33) v4 y4.2.1)])) fun y7 =>
      if y7.1 = 0 then
        some (0, 0, y7.2.2)
      else
        some (y7.1, 0, y7.2.2)
    else
      some (y4.1, 0, y4.2.2)
  else
    some (y1.1, 0, y1.2.2)
theorem dg_rd_selectCase_92 (w : wX) (c : Nat → Option am_C) (N D : Nat) (bb : Nat) (v1 : Int) (v2 : Int) (v4 : Int) (q1 : R32 v1) (q2 : R32 v2) (q4 : R32 v4) (m : mR) (hm : KCn m) (j : Nat → Int) : PP bb w D pm_114 (92, [(0, .ref 178), (1, .int (i32 v1)), (2, .int (i32 v2)), (3, .int (i32 (j 3))), (4, .int (i32 v4))], [], (khp m c, N), 0, 0) (QS (FX0 c N) (kfl_rd_selectCase_92 v1 v2 v4 m)) := by
  unfold kfl_rd_selectCase_92
  show PP bb w D pm_114 (92, [(0, .ref 178), (1, .int (i32 v1)), (2, .int (i32 v2)), (3, .int (i32 (j 3))), (4, .int (i32 v4))], [], (khp (mO m [] []) c, N), 0, 0) _
  refine P_ld 93 (.ref 178) rfl (fun _ => rfl) ?_
  refine PK_gf 96 (.ref 6) rfl rfl kd_178 rfl rfl rfl ?_
  refine P_ld 98 (.int (i32 58)) rfl (fun _ => rfl) ?_
  refine P_cx0 101 78 [.ref 6, .int (i32 58)] [] rfl (fun _ => rfl) rfl rfl (D_tx_expect w m c N D hm 58 (l32 58 rfl)) (fun y x hm e => ⟨_, rfl, hm, Or.inr ⟨x, e, rfl⟩⟩) (fun y1 n3 => ?_)
  refine P_ld 102 (.ref 178) rfl (fun _ => rfl) ?_
  refine PK_gf 105 (.ref 31) rfl rfl kd_178 rfl rfl rfl ?_
  refine PK_gf 108 (.ref 39) rfl rfl kd_31 rfl rfl rfl ?_
  refine P_ld 110 (.int (i32 v4)) rfl (fun _ => rfl) ?_
  refine P_ld 111 (.ref 178) rfl (fun _ => rfl) ?_
  refine P_cx1 114 117 [.ref 178] [.int (i32 v4), .ref 39] rfl (fun _ => rfl) rfl rfl (D_rd_goal w y1.2.2 c N D n3) (fun y x hm e => ⟨_, rfl, hm, Or.inr ⟨x, e, rfl⟩⟩) (fun y4 h5 n6 => ?_)
  refine PK_iast2 (a' := [(33, upI (y4.2.2.2 33) v4 y4.2.1)]) 115 33 (y4.2.2.2 33) rfl rfl rfl q4 rfl rfl ?_
  refine P_ld 116 (.ref 178) rfl (fun _ => rfl) ?_
  refine PK_gf 119 (.ref 31) rfl rfl kd_178 rfl rfl rfl ?_
  refine PK_gf 122 (.ref 36) rfl rfl kd_31 rfl rfl rfl ?_
  refine P_ld 123 (.int (i32 v1)) rfl (fun _ => rfl) ?_
  refine P_ld 124 (.int (i32 v2)) rfl (fun _ => rfl) ?_
  refine P_ld 125 (.int (i32 1)) rfl (fun _ => rfl) ?_
  refine P_op 126 (cut (v2 + 1)) _ rfl (fun _ => rfl) o_add ?_
  refine PK_iast2 (a' := [(30, upI (y4.2.2.2 30) v1 (cut (v2 + 1))), (33, upI (y4.2.2.2 33) v4 y4.2.1)]) 127 30 (y4.2.2.2 30) rfl rfl rfl q1 rfl rfl ?_
  refine P_ld 128 (.ref 178) rfl (fun _ => rfl) ?_
  refine PK_gf 131 (.ref 6) rfl rfl kd_178 rfl rfl rfl ?_
  refine P_ld 133 (.int (i32 59)) rfl (fun _ => rfl) ?_
  refine P_cx0 136 78 [.ref 6, .int (i32 59)] [] rfl (fun _ => rfl) rfl rfl (D_tx_expect w (mO y4.2.2 [] [(30, upI (y4.2.2.2 30) v1 (cut (v2 + 1))), (33, upI (y4.2.2.2 33) v4 y4.2.1)]) c N D (KCn_mO n6 rfl rfl trivial ⟨(kE_ui (KCn_a n6 30) rfl cut_r), (kE_ui (KCn_a n6 33) rfl h5), trivial⟩) 59 (l32 59 rfl)) (fun y x hm e => ⟨_, rfl, hm, Or.inr ⟨x, e, rfl⟩⟩) (fun y7 n9 => ?_)
  exact P_rx0 rfl rfl n9
def kfl_rd_selectCase_21 (v1 : Int) (v2 : Int) (v3 : Int) (m : mR) : Option (Int × Int × mR) :=
  bnd (kf_rd_fittingNumber v3 m) fun y10 =>
  if y10.1 = 0 then
    bnd (kf_pw_ones v3 (mO y10.2.2 [] [(31, upI (y10.2.2.2 31) (cut ((cut (v1 * 8)) + v2)) y10.2.1)])) fun y13 =>
    if y10.2.2.1 206 = 38 then
      bnd (kf_tx_advance (mO y10.2.2 [] [(31, upI (y10.2.2.2 31) (cut ((cut (v1 * 8)) + v2)) y10.2.1), (32, upI (y10.2.2.2 32) (cut ((cut (v1 * 8)) + v2)) y13)])) fun y17 =>
      if y17.1 = 0 then
        bnd (kf_rd_fittingNumber v3 y17.2.2) fun y20 =>
        if y20.1 = 0 then
          kfl_rd_selectCase_92 v1 v2 (cut ((cut (v1 * 8)) + v2)) (mO y20.2.2 [] [(32, upI (y20.2.2.2 32) (cut ((cut (v1 * 8)) + v2)) y20.2.1)])
        else
          some (y20.1, 0, y20.2.2)
      else
        some (y17.1, 0, y17.2.2)
    else
      kfl_rd_selectCase_92 v1 v2 (cut ((cut (v1 * 8)) + v2)) (mO y10.2.2 [] [(31, upI (y10.2.2.2 31) (cut ((cut (v1 * 8)) + v2)) y10.2.1), (32, upI (y10.2.2.2 32) (cut ((cut (v1 * 8)) + v2)) y13)])
  else
    some (y10.1, 0, y10.2.2)
theorem dg_rd_selectCase_21 (w : wX) (c : Nat → Option am_C) (N D : Nat) (bb : Nat) (v1 : Int) (v2 : Int) (v3 : Int) (q1 : R32 v1) (q2 : R32 v2) (q3 : R32 v3) (m : mR) (hm : KCn m) (j : Nat → Int) : PP bb w D pm_114 (21, [(0, .ref 178), (1, .int (i32 v1)), (2, .int (i32 v2)), (3, .int (i32 v3))], [], (khp m c, N), 0, 0) (QS (FX0 c N) (kfl_rd_selectCase_21 v1 v2 v3 m)) := by
  unfold kfl_rd_selectCase_21
  show PP bb w D pm_114 (21, [(0, .ref 178), (1, .int (i32 v1)), (2, .int (i32 v2)), (3, .int (i32 v3))], [], (khp (mO m [] []) c, N), 0, 0) _
  refine P_ld 22 (.int (i32 v1)) rfl (fun _ => rfl) ?_
  refine P_ld 24 (.int (i32 8)) rfl (fun _ => rfl) ?_
  refine P_op 25 (cut (v1 * 8)) _ rfl (fun _ => rfl) o_mul ?_
  refine P_ld 26 (.int (i32 v2)) rfl (fun _ => rfl) ?_
  refine P_op 27 (cut ((cut (v1 * 8)) + v2)) _ rfl (fun _ => rfl) o_add ?_
  refine P_sto 29 [(4, .int (i32 (cut ((cut (v1 * 8)) + v2)))), (0, .ref 178), (1, .int (i32 v1)), (2, .int (i32 v2)), (3, .int (i32 v3))] rfl (fun _ => rfl) ?_
  refine P_ld 30 (.ref 178) rfl (fun _ => rfl) ?_
  refine PK_gf 33 (.ref 31) rfl rfl kd_178 rfl rfl rfl ?_
  refine PK_gf 36 (.ref 37) rfl rfl kd_31 rfl rfl rfl ?_
  refine P_ld 38 (.int (i32 (cut ((cut (v1 * 8)) + v2)))) rfl (fun _ => rfl) ?_
  refine P_ld 39 (.ref 178) rfl (fun _ => rfl) ?_
  refine P_ld 40 (.int (i32 v3)) rfl (fun _ => rfl) ?_
  refine P_cx2 43 115 [.ref 178, .int (i32 v3)] [.int (i32 (cut ((cut (v1 * 8)) + v2))), .ref 37] rfl (fun _ => rfl) rfl rfl (D_rd_fittingNumber w m c N D hm v3 q3) (fun y x hm e => ⟨_, rfl, hm, Or.inr ⟨x, e, rfl⟩⟩) (fun y10 h11 n12 => ?_)
  refine PK_last2 (a' := [(31, upI (y10.2.2.2 31) (cut ((cut (v1 * 8)) + v2)) y10.2.1)]) 44 31 (y10.2.2.2 31) rfl rfl rfl cut_r rfl rfl ?_
  refine P_ld 45 (.ref 178) rfl (fun _ => rfl) ?_
  refine PK_gf 48 (.ref 31) rfl rfl kd_178 rfl rfl rfl ?_
  refine PK_gf 51 (.ref 38) rfl rfl kd_31 rfl rfl rfl ?_
  refine P_ld 53 (.int (i32 (cut ((cut (v1 * 8)) + v2)))) rfl (fun _ => rfl) ?_
  refine P_ld 54 (.int (i32 v3)) rfl (fun _ => rfl) ?_
  refine P_cp2 57 116 [.int (i32 v3)] [.int (i32 (cut ((cut (v1 * 8)) + v2))), .ref 38] rfl (fun _ => rfl) rfl (D_pw_ones w (mO y10.2.2 [] [(31, upI (y10.2.2.2 31) (cut ((cut (v1 * 8)) + v2)) y10.2.1)]) c N D (KCn_mO n12 rfl rfl trivial ⟨(kE_ul (KCn_a n12 31) rfl h11), trivial⟩) v3 q3) (fun y13 h14 => ?_)
  refine PK_last2 (a' := [(31, upI (y10.2.2.2 31) (cut ((cut (v1 * 8)) + v2)) y10.2.1), (32, upI (y10.2.2.2 32) (cut ((cut (v1 * 8)) + v2)) y13)]) 58 32 (y10.2.2.2 32) rfl rfl rfl cut_r rfl rfl ?_
  refine P_ld 59 (.ref 178) rfl (fun _ => rfl) ?_
  refine PK_gf 62 (.ref 6) rfl rfl kd_178 rfl rfl rfl ?_
  refine PK_gf 65 (.int (i32 (y10.2.2.1 206))) rfl rfl kd_6 rfl rfl rfl ?_
  refine P_ld 67 (.int (i32 38)) rfl (fun _ => rfl) ?_
  refine P_icE 92 70 rfl rfl rfl (KCn_i n12 206 rfl) (l32 38 rfl) rfl (fun h16 => ?_) (fun h16 => ?_)
  · skip
    refine P_ld 71 (.ref 178) rfl (fun _ => rfl) ?_
    refine PK_gf 74 (.ref 6) rfl rfl kd_178 rfl rfl rfl ?_
    refine P_cx0 77 50 [.ref 6] [] rfl (fun _ => rfl) rfl rfl (D_tx_advance w (mO y10.2.2 [] [(31, upI (y10.2.2.2 31) (cut ((cut (v1 * 8)) + v2)) y10.2.1), (32, upI (y10.2.2.2 32) (cut ((cut (v1 * 8)) + v2)) y13)]) c N D (KCn_mO n12 rfl rfl trivial ⟨(kE_ul (KCn_a n12 31) rfl h11), (kE_ul (KCn_a n12 32) rfl h14), trivial⟩)) (fun y x hm e => ⟨_, rfl, hm, Or.inr ⟨x, e, rfl⟩⟩) (fun y17 n19 => ?_)
    refine P_ld 78 (.ref 178) rfl (fun _ => rfl) ?_
    refine PK_gf 81 (.ref 31) rfl rfl kd_178 rfl rfl rfl ?_
    refine PK_gf 84 (.ref 38) rfl rfl kd_31 rfl rfl rfl ?_
    refine P_ld 86 (.int (i32 (cut ((cut (v1 * 8)) + v2)))) rfl (fun _ => rfl) ?_
    refine P_ld 87 (.ref 178) rfl (fun _ => rfl) ?_
    refine P_ld 88 (.int (i32 v3)) rfl (fun _ => rfl) ?_
    refine P_cx2 91 115 [.ref 178, .int (i32 v3)] [.int (i32 (cut ((cut (v1 * 8)) + v2))), .ref 38] rfl (fun _ => rfl) rfl rfl (D_rd_fittingNumber w y17.2.2 c N D n19 v3 q3) (fun y x hm e => ⟨_, rfl, hm, Or.inr ⟨x, e, rfl⟩⟩) (fun y20 h21 n22 => ?_)
    refine PK_last2 (a' := [(32, upI (y20.2.2.2 32) (cut ((cut (v1 * 8)) + v2)) y20.2.1)]) 92 32 (y20.2.2.2 32) rfl rfl rfl cut_r rfl rfl ?_
    refine P_lv (b := [(0, .ref 178), (1, .int (i32 v1)), (2, .int (i32 v2)), (3, .int (i32 v3)), (4, .int (i32 (cut ((cut (v1 * 8)) + v2))))]) rfl rfl ⟨rfl, rfl, rfl, rfl, rfl, trivial⟩ ?_
    exact dg_rd_selectCase_92 w c N D bb v1 v2 (cut ((cut (v1 * 8)) + v2)) q1 q2 cut_r (mO y20.2.2 [] [(32, upI (y20.2.2.2 32) (cut ((cut (v1 * 8)) + v2)) y20.2.1)]) (KCn_mO n22 rfl rfl trivial ⟨(kE_ul (KCn_a n22 32) rfl h21), trivial⟩) (jk [(3, v3)])
  · skip
    refine P_lv (b := [(0, .ref 178), (1, .int (i32 v1)), (2, .int (i32 v2)), (3, .int (i32 v3)), (4, .int (i32 (cut ((cut (v1 * 8)) + v2))))]) rfl rfl ⟨rfl, rfl, rfl, rfl, rfl, trivial⟩ ?_
    exact dg_rd_selectCase_92 w c N D bb v1 v2 (cut ((cut (v1 * 8)) + v2)) q1 q2 cut_r (mO y10.2.2 [] [(31, upI (y10.2.2.2 31) (cut ((cut (v1 * 8)) + v2)) y10.2.1), (32, upI (y10.2.2.2 32) (cut ((cut (v1 * 8)) + v2)) y13)]) (KCn_mO n12 rfl rfl trivial ⟨(kE_ul (KCn_a n12 31) rfl h11), (kE_ul (KCn_a n12 32) rfl h14), trivial⟩) (jk [(3, v3)])
def kf_rd_selectCase (v1 : Int) (v2 : Int) (v3 : Int) (m : mR) : Option (Int × Int × mR) :=
  if v2 < 8 then
    kfl_rd_selectCase_21 v1 v2 v3 m
  else
    bnd (kf_tx_fail 4 (m.1 207) m) fun y24 =>
    if y24.1 = 0 then
      kfl_rd_selectCase_21 v1 v2 v3 y24.2.2
    else
      some (y24.1, 0, y24.2.2)
theorem D_rd_selectCase (w : wX) (m : mR) (c : Nat → Option am_C) (N D : Nat) (hm : KCn m) (v1 : Int) (v2 : Int) (v3 : Int) (q1 : R32 v1) (q2 : R32 v2) (q3 : R32 v3) : PC w D 114 [.ref 178, .int (i32 v1), .int (i32 v2), .int (i32 v3)] (khp m c, N) (QS (FX0 c N) (kf_rd_selectCase v1 v2 v3 m)) := by
  refine Pc_of (fun D bb => ?_) D
  unfold kf_rd_selectCase
  show PP bb w D pm_114 (0, [(0, .ref 178), (1, .int (i32 v1)), (2, .int (i32 v2)), (3, .int (i32 v3))], [], (khp (mO m [] []) c, N), 0, 0) _
  refine P_ld 1 (.int (i32 v2)) rfl (fun _ => rfl) ?_
  refine P_ld 3 (.int (i32 8)) rfl (fun _ => rfl) ?_
  refine P_icF 21 6 rfl rfl rfl q2 (l32 8 rfl) rfl (fun h23 => ?_) (fun h23 => ?_)
  · skip
    exact dg_rd_selectCase_21 w c N D bb v1 v2 v3 q1 q2 q3 m hm (jk [])
  · skip
    refine P_ld 7 (.ref 178) rfl (fun _ => rfl) ?_
    refine PK_gf 10 (.ref 6) rfl rfl kd_178 rfl rfl rfl ?_
    refine P_ld 11 (.int (i32 4)) rfl (fun _ => rfl) ?_
    refine P_ld 12 (.ref 178) rfl (fun _ => rfl) ?_
    refine PK_gf 15 (.ref 6) rfl rfl kd_178 rfl rfl rfl ?_
    refine PK_gf 18 (.int (i32 (m.1 207))) rfl rfl kd_6 rfl rfl rfl ?_
    refine P_cx0 21 51 [.ref 6, .int (i32 4), .int (i32 (m.1 207))] [] rfl (fun _ => rfl) rfl rfl (D_tx_fail w m c N D hm 4 (m.1 207) (l32 4 rfl) (KCn_i hm 207 rfl)) (fun y x hm e => ⟨_, rfl, hm, Or.inr ⟨x, e, rfl⟩⟩) (fun y24 n26 => ?_)
    exact dg_rd_selectCase_21 w c N D bb v1 v2 v3 q1 q2 q3 y24.2.2 n26 (jk [])
def cs_rd_select_56 (s : Int × mR) : Prop := R32 s.1 ∧ KCn s.2
def cx_rd_select_56 : (Sum (mR) (Int × mR)) → Prop := (sel (fun (e : mR) => KCn e) (fun (e : Int × mR) => False))
def hd_rd_select_56 (c : Nat → Option am_C) (N : Nat) (v1 : Int) (v2 : Int) (s : Int × mR) (j : Nat → Int) : ag_St af_T := (56, [(0, .ref 178), (1, .int (i32 v1)), (2, .int (i32 v2)), (3, .int (i32 s.1))], [], (khp s.2 c, N), 0, 0)
def ex_rd_select_56 (c : Nat → Option am_C) (N : Nat) (v1 : Int) (v2 : Int) : (Sum (mR) (Int × mR)) → (Nat → Int) → ag_St af_T := (sel (fun (e : mR) (j : Nat → Int) => ((99, [(0, .ref 178), (1, .int (i32 v1)), (2, .int (i32 (j 2))), (3, .int (i32 (j 3)))], [], (khp e c, N), 0, 0) : ag_St af_T)) (fun (e : Int × mR) (j : Nat → Int) => ((0, [], [], (khp e.2 c, N), 0, 0) : ag_St af_T)))
def tx_rd_select_56 (c : Nat → Option am_C) (N : Nat) : (Sum (mR) (Int × mR)) → ag_Re af_T → Prop := (sel (fun (_ : mR) (_ : ag_Re af_T) => False) (fun (e : Int × mR) (r : ag_Re af_T) => ∃ x : Nat, e.1 = x + 1 ∧ KCn e.2 ∧ r = (.inr x, (khp e.2 c, N), 1, 6)))
def kfl_rd_select_99 (v1 : Int) (m : mR) : Option (Int × Int × mR) :=
  bnd (kf_tx_expect 308 m) fun y2 =>
  if y2.1 = 0 then
    bnd (kf_tx_expect 58 y2.2.2) fun y5 =>
    if y5.1 = 0 then
      bnd (kf_rd_goal y5.2.2) fun y8 =>
      if y8.1 = 0 then
        bnd (kf_tx_expect 59 (mO y8.2.2 [] [(34, upI (y8.2.2.2 34) v1 y8.2.1)])) fun y11 =>
        if y11.1 = 0 then
          bnd (kf_tx_expect 125 y11.2.2) fun y14 =>
          if y14.1 = 0 then
            some (0, 0, y14.2.2)
          else
            some (y14.1, 0, y14.2.2)
        else
          some (y11.1, 0, y11.2.2)
      else
        some (y8.1, 0, y8.2.2)
    else
      some (y5.1, 0, y5.2.2)
  else
    some (y2.1, 0, y2.2.2)
theorem dg_rd_select_99 (w : wX) (c : Nat → Option am_C) (N D : Nat) (bb : Nat) (v1 : Int) (q1 : R32 v1) (m : mR) (hm : KCn m) (j : Nat → Int) : PP bb w D pm_91 (99, [(0, .ref 178), (1, .int (i32 v1)), (2, .int (i32 (j 2))), (3, .int (i32 (j 3)))], [], (khp m c, N), 0, 0) (QS (FX0 c N) (kfl_rd_select_99 v1 m)) := by
  unfold kfl_rd_select_99
  show PP bb w D pm_91 (99, [(0, .ref 178), (1, .int (i32 v1)), (2, .int (i32 (j 2))), (3, .int (i32 (j 3)))], [], (khp (mO m [] []) c, N), 0, 0) _
  refine P_ld 100 (.ref 178) rfl (fun _ => rfl) ?_
  refine PK_gf 103 (.ref 6) rfl rfl kd_178 rfl rfl rfl ?_
  refine P_ld 106 (.int (i32 308)) rfl (fun _ => rfl) ?_
  refine P_cx0 109 78 [.ref 6, .int (i32 308)] [] rfl (fun _ => rfl) rfl rfl (D_tx_expect w m c N D hm 308 (l32 308 rfl)) (fun y x hm e => ⟨_, rfl, hm, Or.inr ⟨x, e, rfl⟩⟩) (fun y2 n4 => ?_)
  refine P_ld 110 (.ref 178) rfl (fun _ => rfl) ?_
  refine PK_gf 113 (.ref 6) rfl rfl kd_178 rfl rfl rfl ?_
  refine P_ld 115 (.int (i32 58)) rfl (fun _ => rfl) ?_
  refine P_cx0 118 78 [.ref 6, .int (i32 58)] [] rfl (fun _ => rfl) rfl rfl (D_tx_expect w y2.2.2 c N D n4 58 (l32 58 rfl)) (fun y x hm e => ⟨_, rfl, hm, Or.inr ⟨x, e, rfl⟩⟩) (fun y5 n7 => ?_)
  refine P_ld 119 (.ref 178) rfl (fun _ => rfl) ?_
  refine PK_gf 122 (.ref 31) rfl rfl kd_178 rfl rfl rfl ?_
  refine PK_gf 125 (.ref 40) rfl rfl kd_31 rfl rfl rfl ?_
  refine P_ld 126 (.int (i32 v1)) rfl (fun _ => rfl) ?_
  refine P_ld 127 (.ref 178) rfl (fun _ => rfl) ?_
  refine P_cx1 130 117 [.ref 178] [.int (i32 v1), .ref 40] rfl (fun _ => rfl) rfl rfl (D_rd_goal w y5.2.2 c N D n7) (fun y x hm e => ⟨_, rfl, hm, Or.inr ⟨x, e, rfl⟩⟩) (fun y8 h9 n10 => ?_)
  refine PK_iast2 (a' := [(34, upI (y8.2.2.2 34) v1 y8.2.1)]) 131 34 (y8.2.2.2 34) rfl rfl rfl q1 rfl rfl ?_
  refine P_ld 132 (.ref 178) rfl (fun _ => rfl) ?_
  refine PK_gf 135 (.ref 6) rfl rfl kd_178 rfl rfl rfl ?_
  refine P_ld 137 (.int (i32 59)) rfl (fun _ => rfl) ?_
  refine P_cx0 140 78 [.ref 6, .int (i32 59)] [] rfl (fun _ => rfl) rfl rfl (D_tx_expect w (mO y8.2.2 [] [(34, upI (y8.2.2.2 34) v1 y8.2.1)]) c N D (KCn_mO n10 rfl rfl trivial ⟨(kE_ui (KCn_a n10 34) rfl h9), trivial⟩) 59 (l32 59 rfl)) (fun y x hm e => ⟨_, rfl, hm, Or.inr ⟨x, e, rfl⟩⟩) (fun y11 n13 => ?_)
  refine P_ld 141 (.ref 178) rfl (fun _ => rfl) ?_
  refine PK_gf 144 (.ref 6) rfl rfl kd_178 rfl rfl rfl ?_
  refine P_ld 146 (.int (i32 125)) rfl (fun _ => rfl) ?_
  refine P_cx0 149 78 [.ref 6, .int (i32 125)] [] rfl (fun _ => rfl) rfl rfl (D_tx_expect w y11.2.2 c N D n13 125 (l32 125 rfl)) (fun y x hm e => ⟨_, rfl, hm, Or.inr ⟨x, e, rfl⟩⟩) (fun y14 n16 => ?_)
  exact P_rx0 rfl rfl n16
def kfb_rd_select_56 (v1 : Int) (v2 : Int) (s : Int × mR) : Option (Sum (Int × mR) (Sum (mR) (Int × mR))) :=
  if (8 : Int) < s.1 then
    some (.inr (.inl s.2))
  else
    if s.2.1 206 = 257 then
      bnd (kf_rd_selectCase v1 s.1 ((s.2.2 22) v2) s.2) fun y20 =>
      if y20.1 = 0 then
        some (.inl (cut (s.1 + 1), y20.2.2))
      else
        some (.inr (.inr (y20.1, y20.2.2)))
    else
      some (.inr (.inl s.2))
theorem dh_rd_select_56 (w : wX) (c : Nat → Option am_C) (N D : Nat) (v1 : Int) (v2 : Int) (q1 : R32 v1) (q2 : R32 v2) (bb : Nat) (Q2 : Sum (Int × mR) (Sum (mR) (Int × mR)) → ag_Re af_T → Prop) (H1 : ∀ s j, cs_rd_select_56 s → PP bb w D pm_91 (hd_rd_select_56 c N v1 v2 s j) (Q2 (.inl s))) (H2 : ∀ x j, cx_rd_select_56 x → PP bb w D pm_91 (ex_rd_select_56 c N v1 v2 x j) (Q2 (.inr x))) (H3 : ∀ x r, tx_rd_select_56 c N x r → Q2 (.inr x) r) (s : Int × mR) (j : Nat → Int) (hs : cs_rd_select_56 s) : PP (bb + 1) w D pm_91 (hd_rd_select_56 c N v1 v2 s j) (QS Q2 (kfb_rd_select_56 v1 v2 s)) := by
  obtain ⟨g3, gm⟩ := hs
  unfold kfb_rd_select_56
  show PP (bb + 1) w D pm_91 (56, [(0, .ref 178), (1, .int (i32 v1)), (2, .int (i32 v2)), (3, .int (i32 s.1))], [], (khp (mO s.2 [] []) c, N), 0, 0) _
  refine P1_ld 57 (.int (i32 s.1)) rfl (fun _ => rfl) ?_
  refine P_ld 59 (.int (i32 8)) rfl (fun _ => rfl) ?_
  refine P_icF 99 62 rfl rfl rfl g3 (l32 8 rfl) rfl (fun h18 => ?_) (fun h18 => ?_)
  · skip
    refine P_some ?_
    exact H2 (.inl s.2) (jk [(2, v2), (3, s.1)]) gm
  · skip
    refine P_ld 63 (.ref 178) rfl (fun _ => rfl) ?_
    refine PK_gf 66 (.ref 6) rfl rfl kd_178 rfl rfl rfl ?_
    refine PK_gf 69 (.int (i32 (s.2.1 206))) rfl rfl kd_6 rfl rfl rfl ?_
    refine P_ld 72 (.int (i32 257)) rfl (fun _ => rfl) ?_
    refine P_icE 99 75 rfl rfl rfl (KCn_i gm 206 rfl) (l32 257 rfl) rfl (fun h19 => ?_) (fun h19 => ?_)
    · skip
      refine P_ld 76 (.ref 178) rfl (fun _ => rfl) ?_
      refine P_ld 77 (.int (i32 v1)) rfl (fun _ => rfl) ?_
      refine P_ld 78 (.int (i32 s.1)) rfl (fun _ => rfl) ?_
      refine P_ld 79 (.ref 178) rfl (fun _ => rfl) ?_
      refine PK_gf 82 (.ref 12) rfl rfl kd_178 rfl rfl rfl ?_
      refine PK_gf 85 (.ref 22) rfl rfl kd_12 rfl rfl rfl ?_
      refine PK_gf 88 (.ref 27) rfl rfl kd_22 rfl rfl rfl ?_
      refine P_ld 89 (.int (i32 v2)) rfl (fun _ => rfl) ?_
      refine PK_iald2 90 22 (s.2.2 22) rfl rfl rfl q2 rfl ?_
      refine P_cx0 93 114 [.ref 178, .int (i32 v1), .int (i32 s.1), .int (i32 ((s.2.2 22) v2))] [] rfl (fun _ => rfl) rfl rfl (D_rd_selectCase w s.2 c N D gm v1 s.1 ((s.2.2 22) v2) q1 g3 (kE_i (KCn_a gm 22) rfl _)) (fun y x hm e => ⟨_, rfl, H3 _ _ ⟨x, e, hm, rfl⟩⟩) (fun y20 n22 => ?_)
      refine P_inc 96 [(3, .int (i32 (cut (s.1 + 1)))), (0, .ref 178), (1, .int (i32 v1)), (2, .int (i32 v2))] rfl rfl (by decide) rfl rfl ?_
      refine P_goto 56 rfl (fun _ => rfl) ?_
      refine P_some ?_
      refine P_lv (b := [(0, .ref 178), (1, .int (i32 v1)), (2, .int (i32 v2)), (3, .int (i32 (cut (s.1 + 1))))]) rfl rfl ⟨rfl, rfl, rfl, rfl, trivial⟩ ?_
      exact H1 (cut (s.1 + 1), y20.2.2) (jk []) ⟨cut_r, n22⟩
    · skip
      refine P_some ?_
      exact H2 (.inl s.2) (jk [(2, v2), (3, s.1)]) gm
def kf_rd_select (v1 : Int) (m : mR) : Option (Int × Int × mR) :=
  bnd (kf_tx_advance m) fun y23 =>
  if y23.1 = 0 then
    bnd (kf_fm_whole (-1) (mO y23.2.2 [] [(28, upI (y23.2.2.2 28) v1 (y23.2.2.1 220))])) fun y26 =>
    if y26.1 = 0 then
      bnd (kf_tx_expect 123 (mO y26.2.2 [] [(29, upI (y26.2.2.2 29) v1 y26.2.1)])) fun y29 =>
      if y29.1 = 0 then
        bnd (whl (kfb_rd_select_56 v1 y26.2.1) (0, y29.2.2)) (sel
          (fun e32 : mR =>
            kfl_rd_select_99 v1 e32)
          (fun e35 : Int × mR =>
            some (e35.1, 0, e35.2)))
      else
        some (y29.1, 0, y29.2.2)
    else
      some (y26.1, 0, y26.2.2)
  else
    some (y23.1, 0, y23.2.2)
theorem D_rd_select (w : wX) (m : mR) (c : Nat → Option am_C) (N D : Nat) (hm : KCn m) (v1 : Int) (q1 : R32 v1) : PC w D 91 [.ref 178, .int (i32 v1)] (khp m c, N) (QS (FX0 c N) (kf_rd_select v1 m)) := by
  refine Pc_of (fun D bb => ?_) D
  unfold kf_rd_select
  show PP bb w D pm_91 (0, [(0, .ref 178), (1, .int (i32 v1))], [], (khp (mO m [] []) c, N), 0, 0) _
  refine P_ld 1 (.ref 178) rfl (fun _ => rfl) ?_
  refine PK_gf 4 (.ref 6) rfl rfl kd_178 rfl rfl rfl ?_
  refine P_cx0 7 50 [.ref 6] [] rfl (fun _ => rfl) rfl rfl (D_tx_advance w m c N D hm) (fun y x hm e => ⟨_, rfl, hm, Or.inr ⟨x, e, rfl⟩⟩) (fun y23 n25 => ?_)
  refine P_ld 8 (.ref 178) rfl (fun _ => rfl) ?_
  refine PK_gf 11 (.ref 31) rfl rfl kd_178 rfl rfl rfl ?_
  refine PK_gf 14 (.ref 34) rfl rfl kd_31 rfl rfl rfl ?_
  refine P_ld 15 (.int (i32 v1)) rfl (fun _ => rfl) ?_
  refine P_ld 16 (.ref 178) rfl (fun _ => rfl) ?_
  refine PK_gf 19 (.ref 12) rfl rfl kd_178 rfl rfl rfl ?_
  refine PK_gf 22 (.ref 22) rfl rfl kd_12 rfl rfl rfl ?_
  refine PK_gf 25 (.int (i32 (y23.2.2.1 220))) rfl rfl kd_22 rfl rfl rfl ?_
  refine PK_iast2 (a' := [(28, upI (y23.2.2.2 28) v1 (y23.2.2.1 220))]) 26 28 (y23.2.2.2 28) rfl rfl rfl q1 rfl rfl ?_
  refine P_ld 27 (.ref 178) rfl (fun _ => rfl) ?_
  refine PK_gf 30 (.ref 181) rfl rfl kd_178 rfl rfl rfl ?_
  refine P_ld 31 (.int (i32 (-1))) rfl (fun _ => rfl) ?_
  refine P_cx1 34 92 [.ref 181, .int (i32 (-1))] [] rfl (fun _ => rfl) rfl rfl (D_fm_whole w (mO y23.2.2 [] [(28, upI (y23.2.2.2 28) v1 (y23.2.2.1 220))]) c N D (KCn_mO n25 rfl rfl trivial ⟨(kE_ui (KCn_a n25 28) rfl (KCn_i n25 220 rfl)), trivial⟩) (-1) (l32 (-1) rfl)) (fun y x hm e => ⟨_, rfl, hm, Or.inr ⟨x, e, rfl⟩⟩) (fun y26 h27 n28 => ?_)
  refine P_sto 35 [(2, .int (i32 y26.2.1)), (0, .ref 178), (1, .int (i32 v1))] rfl (fun _ => rfl) ?_
  refine P_ld 36 (.ref 178) rfl (fun _ => rfl) ?_
  refine PK_gf 39 (.ref 31) rfl rfl kd_178 rfl rfl rfl ?_
  refine PK_gf 42 (.ref 35) rfl rfl kd_31 rfl rfl rfl ?_
  refine P_ld 43 (.int (i32 v1)) rfl (fun _ => rfl) ?_
  refine P_ld 44 (.int (i32 y26.2.1)) rfl (fun _ => rfl) ?_
  refine PK_iast2 (a' := [(29, upI (y26.2.2.2 29) v1 y26.2.1)]) 45 29 (y26.2.2.2 29) rfl rfl rfl q1 rfl rfl ?_
  refine P_ld 46 (.ref 178) rfl (fun _ => rfl) ?_
  refine PK_gf 49 (.ref 6) rfl rfl kd_178 rfl rfl rfl ?_
  refine P_ld 51 (.int (i32 123)) rfl (fun _ => rfl) ?_
  refine P_cx0 54 78 [.ref 6, .int (i32 123)] [] rfl (fun _ => rfl) rfl rfl (D_tx_expect w (mO y26.2.2 [] [(29, upI (y26.2.2.2 29) v1 y26.2.1)]) c N D (KCn_mO n28 rfl rfl trivial ⟨(kE_ui (KCn_a n28 29) rfl h27), trivial⟩) 123 (l32 123 rfl)) (fun y x hm e => ⟨_, rfl, hm, Or.inr ⟨x, e, rfl⟩⟩) (fun y29 n31 => ?_)
  refine P_ld 55 (.int (i32 0)) rfl (fun _ => rfl) ?_
  refine P_sto 56 [(3, .int (i32 0)), (2, .int (i32 y26.2.1)), (0, .ref 178), (1, .int (i32 v1))] rfl (fun _ => rfl) ?_
  refine P_lv (b := [(0, .ref 178), (1, .int (i32 v1)), (2, .int (i32 y26.2.1)), (3, .int (i32 0))]) rfl rfl ⟨rfl, rfl, rfl, rfl, trivial⟩ ?_
  refine P_bnd ?_
  refine P_whlx (TX := tx_rd_select_56 c N) (fun bb Q2 H1 H2 H3 s9 j9 hs9 => dh_rd_select_56 w c N D v1 y26.2.1 q1 h27 bb Q2 H1 H2 H3 s9 j9 hs9) bb (fun x r hr => ?_) (fun x0 j hx0 => ?_) (0, y29.2.2) (jk []) ⟨(l32 0 rfl), n31⟩
  · skip
    cases x with
    | inl e => exact False.elim hr
    | inr x =>
      obtain ⟨x9, e9, k9, rfl⟩ := hr
      exact ⟨_, rfl, k9, Or.inr ⟨x9, e9, rfl⟩⟩
  cases x0 with
  | inl e32 =>
    have q33 := hx0
    have q34 := q33
    show PP bb w D pm_91 (99, [(0, .ref 178), (1, .int (i32 v1)), (2, .int (i32 (j 2))), (3, .int (i32 (j 3)))], [], (khp (mO e32 [] []) c, N), 0, 0) (QS _ (kfl_rd_select_99 v1 e32))
    exact dg_rd_select_99 w c N D bb v1 q1 e32 q34 (jk [(2, j 2), (3, j 3)])
  | inr e35 =>
    have q36 := hx0
    have q36 := q36
    exact False.elim q36
def kfl_rd_extract_21 (v1 : Int) (v2 : Int) (m : mR) : Option (Int × Int × mR) :=
  bnd (kf_tx_advance m) fun y1 =>
  if y1.1 = 0 then
    bnd (kf_tx_known 301 y1.2.2) fun y4 =>
    if y4.1 = 0 then
      bnd (kf_tx_expect 59 (mO y4.2.2 [] [(26, upI (y4.2.2.2 26) v1 (cut (v2 + 1))), (27, upI (y4.2.2.2 27) (cut ((cut (v1 * 6)) + v2)) y4.2.1)])) fun y7 =>
      if y7.1 = 0 then
        some (0, 0, y7.2.2)
      else
        some (y7.1, 0, y7.2.2)
    else
      some (y4.1, 0, y4.2.2)
  else
    some (y1.1, 0, y1.2.2)
theorem dg_rd_extract_21 (w : wX) (c : Nat → Option am_C) (N D : Nat) (bb : Nat) (v1 : Int) (v2 : Int) (q1 : R32 v1) (q2 : R32 v2) (m : mR) (hm : KCn m) (j : Nat → Int) : PP bb w D pm_90 (21, [(0, .ref 178), (1, .int (i32 v1)), (2, .int (i32 v2))], [], (khp m c, N), 0, 0) (QS (FX0 c N) (kfl_rd_extract_21 v1 v2 m)) := by
  unfold kfl_rd_extract_21
  show PP bb w D pm_90 (21, [(0, .ref 178), (1, .int (i32 v1)), (2, .int (i32 v2))], [], (khp (mO m [] []) c, N), 0, 0) _
  refine P_ld 22 (.ref 178) rfl (fun _ => rfl) ?_
  refine PK_gf 25 (.ref 6) rfl rfl kd_178 rfl rfl rfl ?_
  refine P_cx0 28 50 [.ref 6] [] rfl (fun _ => rfl) rfl rfl (D_tx_advance w m c N D hm) (fun y x hm e => ⟨_, rfl, hm, Or.inr ⟨x, e, rfl⟩⟩) (fun y1 n3 => ?_)
  refine P_ld 29 (.ref 178) rfl (fun _ => rfl) ?_
  refine PK_gf 32 (.ref 31) rfl rfl kd_178 rfl rfl rfl ?_
  refine PK_gf 35 (.ref 33) rfl rfl kd_31 rfl rfl rfl ?_
  refine P_ld 36 (.int (i32 v1)) rfl (fun _ => rfl) ?_
  refine P_ld 38 (.int (i32 6)) rfl (fun _ => rfl) ?_
  refine P_op 39 (cut (v1 * 6)) _ rfl (fun _ => rfl) o_mul ?_
  refine P_ld 40 (.int (i32 v2)) rfl (fun _ => rfl) ?_
  refine P_op 41 (cut ((cut (v1 * 6)) + v2)) _ rfl (fun _ => rfl) o_add ?_
  refine P_ld 42 (.ref 178) rfl (fun _ => rfl) ?_
  refine PK_gf 45 (.ref 6) rfl rfl kd_178 rfl rfl rfl ?_
  refine P_ld 48 (.int (i32 301)) rfl (fun _ => rfl) ?_
  refine P_cx1 51 83 [.ref 6, .int (i32 301)] [.int (i32 (cut ((cut (v1 * 6)) + v2))), .ref 33] rfl (fun _ => rfl) rfl rfl (D_tx_known w y1.2.2 c N D n3 301 (l32 301 rfl)) (fun y x hm e => ⟨_, rfl, hm, Or.inr ⟨x, e, rfl⟩⟩) (fun y4 h5 n6 => ?_)
  refine PK_iast2 (a' := [(27, upI (y4.2.2.2 27) (cut ((cut (v1 * 6)) + v2)) y4.2.1)]) 52 27 (y4.2.2.2 27) rfl rfl rfl cut_r rfl rfl ?_
  refine P_ld 53 (.ref 178) rfl (fun _ => rfl) ?_
  refine PK_gf 56 (.ref 31) rfl rfl kd_178 rfl rfl rfl ?_
  refine PK_gf 59 (.ref 32) rfl rfl kd_31 rfl rfl rfl ?_
  refine P_ld 60 (.int (i32 v1)) rfl (fun _ => rfl) ?_
  refine P_ld 61 (.int (i32 v2)) rfl (fun _ => rfl) ?_
  refine P_ld 62 (.int (i32 1)) rfl (fun _ => rfl) ?_
  refine P_op 63 (cut (v2 + 1)) _ rfl (fun _ => rfl) o_add ?_
  refine PK_iast2 (a' := [(26, upI (y4.2.2.2 26) v1 (cut (v2 + 1))), (27, upI (y4.2.2.2 27) (cut ((cut (v1 * 6)) + v2)) y4.2.1)]) 64 26 (y4.2.2.2 26) rfl rfl rfl q1 rfl rfl ?_
  refine P_ld 65 (.ref 178) rfl (fun _ => rfl) ?_
  refine PK_gf 68 (.ref 6) rfl rfl kd_178 rfl rfl rfl ?_
  refine P_ld 70 (.int (i32 59)) rfl (fun _ => rfl) ?_
  refine P_cx0 73 78 [.ref 6, .int (i32 59)] [] rfl (fun _ => rfl) rfl rfl (D_tx_expect w (mO y4.2.2 [] [(26, upI (y4.2.2.2 26) v1 (cut (v2 + 1))), (27, upI (y4.2.2.2 27) (cut ((cut (v1 * 6)) + v2)) y4.2.1)]) c N D (KCn_mO n6 rfl rfl trivial ⟨(kE_ui (KCn_a n6 26) rfl cut_r), (kE_ui (KCn_a n6 27) rfl h5), trivial⟩) 59 (l32 59 rfl)) (fun y x hm e => ⟨_, rfl, hm, Or.inr ⟨x, e, rfl⟩⟩) (fun y7 n9 => ?_)
  exact P_rx0 rfl rfl n9
def kf_rd_extract (v1 : Int) (v2 : Int) (m : mR) : Option (Int × Int × mR) :=
  if v2 < 6 then
    kfl_rd_extract_21 v1 v2 m
  else
    bnd (kf_tx_fail 4 (m.1 207) m) fun y11 =>
    if y11.1 = 0 then
      kfl_rd_extract_21 v1 v2 y11.2.2
    else
      some (y11.1, 0, y11.2.2)
theorem D_rd_extract (w : wX) (m : mR) (c : Nat → Option am_C) (N D : Nat) (hm : KCn m) (v1 : Int) (v2 : Int) (q1 : R32 v1) (q2 : R32 v2) : PC w D 90 [.ref 178, .int (i32 v1), .int (i32 v2)] (khp m c, N) (QS (FX0 c N) (kf_rd_extract v1 v2 m)) := by
  refine Pc_of (fun D bb => ?_) D
  unfold kf_rd_extract
  show PP bb w D pm_90 (0, [(0, .ref 178), (1, .int (i32 v1)), (2, .int (i32 v2))], [], (khp (mO m [] []) c, N), 0, 0) _
  refine P_ld 1 (.int (i32 v2)) rfl (fun _ => rfl) ?_
  refine P_ld 3 (.int (i32 6)) rfl (fun _ => rfl) ?_
  refine P_icF 21 6 rfl rfl rfl q2 (l32 6 rfl) rfl (fun h10 => ?_) (fun h10 => ?_)
  · skip
    exact dg_rd_extract_21 w c N D bb v1 v2 q1 q2 m hm (jk [])
  · skip
    refine P_ld 7 (.ref 178) rfl (fun _ => rfl) ?_
    refine PK_gf 10 (.ref 6) rfl rfl kd_178 rfl rfl rfl ?_
    refine P_ld 11 (.int (i32 4)) rfl (fun _ => rfl) ?_
    refine P_ld 12 (.ref 178) rfl (fun _ => rfl) ?_
    refine PK_gf 15 (.ref 6) rfl rfl kd_178 rfl rfl rfl ?_
    refine PK_gf 18 (.int (i32 (m.1 207))) rfl rfl kd_6 rfl rfl rfl ?_
    refine P_cx0 21 51 [.ref 6, .int (i32 4), .int (i32 (m.1 207))] [] rfl (fun _ => rfl) rfl rfl (D_tx_fail w m c N D hm 4 (m.1 207) (l32 4 rfl) (KCn_i hm 207 rfl)) (fun y x hm e => ⟨_, rfl, hm, Or.inr ⟨x, e, rfl⟩⟩) (fun y11 n13 => ?_)
    exact dg_rd_extract_21 w c N D bb v1 v2 q1 q2 y11.2.2 n13 (jk [])
end X28N
