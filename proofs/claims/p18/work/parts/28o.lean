noncomputable section X28O
def cs_rd_state_124 (s : Int × mR) : Prop := R32 s.1 ∧ KCn s.2
def cx_rd_state_124 : (Sum (mR) (Int × mR)) → Prop := (sel (fun (e : mR) => KCn e) (fun (e : Int × mR) => False))
def hd_rd_state_124 (c : Nat → Option am_C) (N : Nat) (v2 : Int) (s : Int × mR) (j : Nat → Int) : ag_St af_T := (124, [(0, .ref 178), (1, .int (i32 (j 1))), (2, .int (i32 v2)), (3, .int (i32 s.1))], [], (khp s.2 c, N), 0, 0)
def ex_rd_state_124 (c : Nat → Option am_C) (N : Nat) (v2 : Int) : (Sum (mR) (Int × mR)) → (Nat → Int) → ag_St af_T := (sel (fun (e : mR) (j : Nat → Int) => ((155, [(0, .ref 178), (1, .int (i32 (j 1))), (2, .int (i32 v2)), (3, .int (i32 (j 3)))], [], (khp e c, N), 0, 0) : ag_St af_T)) (fun (e : Int × mR) (j : Nat → Int) => ((0, [], [], (khp e.2 c, N), 0, 0) : ag_St af_T)))
def tx_rd_state_124 (c : Nat → Option am_C) (N : Nat) : (Sum (mR) (Int × mR)) → ag_Re af_T → Prop := (sel (fun (_ : mR) (_ : ag_Re af_T) => False) (fun (e : Int × mR) (r : ag_Re af_T) => ∃ x : Nat, e.1 = x + 1 ∧ KCn e.2 ∧ r = (.inr x, (khp e.2 c, N), 1, 6)))
def kfl_rd_state_208 (m : mR) : Option (Int × Int × mR) :=
  bnd (kf_tx_expect 125 m) fun y2 =>
  if y2.1 = 0 then
    some (0, 0, y2.2.2)
  else
    some (y2.1, 0, y2.2.2)
theorem dg_rd_state_208 (w : wX) (c : Nat → Option am_C) (N D : Nat) (bb : Nat) (m : mR) (hm : KCn m) (j : Nat → Int) : PP bb w D pm_87 (208, [(0, .ref 178), (1, .int (i32 (j 1))), (2, .int (i32 (j 2))), (3, .int (i32 (j 3)))], [], (khp m c, N), 0, 0) (QS (FX0 c N) (kfl_rd_state_208 m)) := by
  unfold kfl_rd_state_208
  show PP bb w D pm_87 (208, [(0, .ref 178), (1, .int (i32 (j 1))), (2, .int (i32 (j 2))), (3, .int (i32 (j 3)))], [], (khp (mO m [] []) c, N), 0, 0) _
  refine P_ld 209 (.ref 178) rfl (fun _ => rfl) ?_
  refine PK_gf 212 (.ref 6) rfl rfl kd_178 rfl rfl rfl ?_
  refine P_ld 214 (.int (i32 125)) rfl (fun _ => rfl) ?_
  refine P_cx0 217 78 [.ref 6, .int (i32 125)] [] rfl (fun _ => rfl) rfl rfl (D_tx_expect w m c N D hm 125 (l32 125 rfl)) (fun y x hm e => ⟨_, rfl, hm, Or.inr ⟨x, e, rfl⟩⟩) (fun y2 n4 => ?_)
  exact P_rx0 rfl rfl n4
def kfl_rd_state_155 (v2 : Int) (m : mR) : Option (Int × Int × mR) :=
  if m.1 206 = 307 then
    bnd (kf_rd_select v2 m) fun y15 =>
    if y15.1 = 0 then
      kfl_rd_state_208 y15.2.2
    else
      some (y15.1, 0, y15.2.2)
  else
    bnd (kf_tx_expect 306 m) fun y6 =>
    if y6.1 = 0 then
      bnd (kf_rd_goal y6.2.2) fun y9 =>
      if y9.1 = 0 then
        bnd (kf_tx_expect 59 (mO y9.2.2 [] [(34, upI (y9.2.2.2 34) v2 y9.2.1)])) fun y12 =>
        if y12.1 = 0 then
          kfl_rd_state_208 y12.2.2
        else
          some (y12.1, 0, y12.2.2)
      else
        some (y9.1, 0, y9.2.2)
    else
      some (y6.1, 0, y6.2.2)
theorem dg_rd_state_155 (w : wX) (c : Nat → Option am_C) (N D : Nat) (bb : Nat) (v2 : Int) (q2 : R32 v2) (m : mR) (hm : KCn m) (j : Nat → Int) : PP bb w D pm_87 (155, [(0, .ref 178), (1, .int (i32 (j 1))), (2, .int (i32 v2)), (3, .int (i32 (j 3)))], [], (khp m c, N), 0, 0) (QS (FX0 c N) (kfl_rd_state_155 v2 m)) := by
  unfold kfl_rd_state_155
  show PP bb w D pm_87 (155, [(0, .ref 178), (1, .int (i32 (j 1))), (2, .int (i32 v2)), (3, .int (i32 (j 3)))], [], (khp (mO m [] []) c, N), 0, 0) _
  refine P_ld 156 (.ref 178) rfl (fun _ => rfl) ?_
  refine PK_gf 159 (.ref 6) rfl rfl kd_178 rfl rfl rfl ?_
  refine PK_gf 162 (.int (i32 (m.1 206))) rfl rfl kd_6 rfl rfl rfl ?_
  refine P_ld 165 (.int (i32 307)) rfl (fun _ => rfl) ?_
  refine P_icE 176 168 rfl rfl rfl (KCn_i hm 206 rfl) (l32 307 rfl) rfl (fun h5 => ?_) (fun h5 => ?_)
  · skip
    refine P_ld 169 (.ref 178) rfl (fun _ => rfl) ?_
    refine P_ld 170 (.int (i32 v2)) rfl (fun _ => rfl) ?_
    refine P_cx0 173 91 [.ref 178, .int (i32 v2)] [] rfl (fun _ => rfl) rfl rfl (D_rd_select w m c N D hm v2 q2) (fun y x hm e => ⟨_, rfl, hm, Or.inr ⟨x, e, rfl⟩⟩) (fun y15 n17 => ?_)
    refine P_goto 208 rfl (fun _ => rfl) ?_
    exact dg_rd_state_208 w c N D bb y15.2.2 n17 (jk [(1, j 1), (2, v2), (3, j 3)])
  · skip
    refine P_ld 177 (.ref 178) rfl (fun _ => rfl) ?_
    refine PK_gf 180 (.ref 6) rfl rfl kd_178 rfl rfl rfl ?_
    refine P_ld 183 (.int (i32 306)) rfl (fun _ => rfl) ?_
    refine P_cx0 186 78 [.ref 6, .int (i32 306)] [] rfl (fun _ => rfl) rfl rfl (D_tx_expect w m c N D hm 306 (l32 306 rfl)) (fun y x hm e => ⟨_, rfl, hm, Or.inr ⟨x, e, rfl⟩⟩) (fun y6 n8 => ?_)
    refine P_ld 187 (.ref 178) rfl (fun _ => rfl) ?_
    refine PK_gf 190 (.ref 31) rfl rfl kd_178 rfl rfl rfl ?_
    refine PK_gf 193 (.ref 40) rfl rfl kd_31 rfl rfl rfl ?_
    refine P_ld 194 (.int (i32 v2)) rfl (fun _ => rfl) ?_
    refine P_ld 195 (.ref 178) rfl (fun _ => rfl) ?_
    refine P_cx1 198 117 [.ref 178] [.int (i32 v2), .ref 40] rfl (fun _ => rfl) rfl rfl (D_rd_goal w y6.2.2 c N D n8) (fun y x hm e => ⟨_, rfl, hm, Or.inr ⟨x, e, rfl⟩⟩) (fun y9 h10 n11 => ?_)
    refine PK_iast2 (a' := [(34, upI (y9.2.2.2 34) v2 y9.2.1)]) 199 34 (y9.2.2.2 34) rfl rfl rfl q2 rfl rfl ?_
    refine P_ld 200 (.ref 178) rfl (fun _ => rfl) ?_
    refine PK_gf 203 (.ref 6) rfl rfl kd_178 rfl rfl rfl ?_
    refine P_ld 205 (.int (i32 59)) rfl (fun _ => rfl) ?_
    refine P_cx0 208 78 [.ref 6, .int (i32 59)] [] rfl (fun _ => rfl) rfl rfl (D_tx_expect w (mO y9.2.2 [] [(34, upI (y9.2.2.2 34) v2 y9.2.1)]) c N D (KCn_mO n11 rfl rfl trivial ⟨(kE_ui (KCn_a n11 34) rfl h10), trivial⟩) 59 (l32 59 rfl)) (fun y x hm e => ⟨_, rfl, hm, Or.inr ⟨x, e, rfl⟩⟩) (fun y12 n14 => ?_)
    exact dg_rd_state_208 w c N D bb y12.2.2 n14 (jk [(1, j 1), (2, v2), (3, j 3)])
def kfb_rd_state_124 (v2 : Int) (s : Int × mR) : Option (Sum (Int × mR) (Sum (mR) (Int × mR))) :=
  if (6 : Int) < s.1 then
    some (.inr (.inl s.2))
  else
    if s.2.1 206 = 305 then
      bnd (kf_rd_extract v2 s.1 s.2) fun y21 =>
      if y21.1 = 0 then
        some (.inl (cut (s.1 + 1), y21.2.2))
      else
        some (.inr (.inr (y21.1, y21.2.2)))
    else
      some (.inr (.inl s.2))
theorem dh_rd_state_124 (w : wX) (c : Nat → Option am_C) (N D : Nat) (v2 : Int) (q2 : R32 v2) (bb : Nat) (Q2 : Sum (Int × mR) (Sum (mR) (Int × mR)) → ag_Re af_T → Prop) (H1 : ∀ s j, cs_rd_state_124 s → PP bb w D pm_87 (hd_rd_state_124 c N v2 s j) (Q2 (.inl s))) (H2 : ∀ x j, cx_rd_state_124 x → PP bb w D pm_87 (ex_rd_state_124 c N v2 x j) (Q2 (.inr x))) (H3 : ∀ x r, tx_rd_state_124 c N x r → Q2 (.inr x) r) (s : Int × mR) (j : Nat → Int) (hs : cs_rd_state_124 s) : PP (bb + 1) w D pm_87 (hd_rd_state_124 c N v2 s j) (QS Q2 (kfb_rd_state_124 v2 s)) := by
  obtain ⟨g3, gm⟩ := hs
  unfold kfb_rd_state_124
  show PP (bb + 1) w D pm_87 (124, [(0, .ref 178), (1, .int (i32 (j 1))), (2, .int (i32 v2)), (3, .int (i32 s.1))], [], (khp (mO s.2 [] []) c, N), 0, 0) _
  refine P1_ld 125 (.int (i32 s.1)) rfl (fun _ => rfl) ?_
  refine P_ld 127 (.int (i32 6)) rfl (fun _ => rfl) ?_
  refine P_icF 155 130 rfl rfl rfl g3 (l32 6 rfl) rfl (fun h19 => ?_) (fun h19 => ?_)
  · skip
    refine P_some ?_
    exact H2 (.inl s.2) (jk [(1, j 1), (3, s.1)]) gm
  · skip
    refine P_ld 131 (.ref 178) rfl (fun _ => rfl) ?_
    refine PK_gf 134 (.ref 6) rfl rfl kd_178 rfl rfl rfl ?_
    refine PK_gf 137 (.int (i32 (s.2.1 206))) rfl rfl kd_6 rfl rfl rfl ?_
    refine P_ld 140 (.int (i32 305)) rfl (fun _ => rfl) ?_
    refine P_icE 155 143 rfl rfl rfl (KCn_i gm 206 rfl) (l32 305 rfl) rfl (fun h20 => ?_) (fun h20 => ?_)
    · skip
      refine P_ld 144 (.ref 178) rfl (fun _ => rfl) ?_
      refine P_ld 145 (.int (i32 v2)) rfl (fun _ => rfl) ?_
      refine P_ld 146 (.int (i32 s.1)) rfl (fun _ => rfl) ?_
      refine P_cx0 149 90 [.ref 178, .int (i32 v2), .int (i32 s.1)] [] rfl (fun _ => rfl) rfl rfl (D_rd_extract w s.2 c N D gm v2 s.1 q2 g3) (fun y x hm e => ⟨_, rfl, H3 _ _ ⟨x, e, hm, rfl⟩⟩) (fun y21 n23 => ?_)
      refine P_inc 152 [(3, .int (i32 (cut (s.1 + 1)))), (0, .ref 178), (1, .int (i32 (j 1))), (2, .int (i32 v2))] rfl rfl (by decide) rfl rfl ?_
      refine P_goto 124 rfl (fun _ => rfl) ?_
      refine P_some ?_
      refine P_lv (b := [(0, .ref 178), (1, .int (i32 (j 1))), (2, .int (i32 v2)), (3, .int (i32 (cut (s.1 + 1))))]) rfl rfl ⟨rfl, rfl, rfl, rfl, trivial⟩ ?_
      exact H1 (cut (s.1 + 1), y21.2.2) (jk [(1, j 1)]) ⟨cut_r, n23⟩
    · skip
      refine P_some ?_
      exact H2 (.inl s.2) (jk [(1, j 1), (3, s.1)]) gm
def kfl_rd_state_104 (v1 : Int) (v2 : Int) (m : mR) : Option (Int × Int × mR) :=
  bnd (kf_ss_stand v2 v1 m) fun y24 =>
  bnd (kf_tx_expect 123 y24.2) fun y27 =>
  if y27.1 = 0 then
    bnd (whl (kfb_rd_state_124 v2) (0, y27.2.2)) (sel
      (fun e30 : mR =>
        kfl_rd_state_155 v2 e30)
      (fun e33 : Int × mR =>
        some (e33.1, 0, e33.2)))
  else
    some (y27.1, 0, y27.2.2)
theorem dg_rd_state_104 (w : wX) (c : Nat → Option am_C) (N D : Nat) (bb : Nat) (v1 : Int) (v2 : Int) (q1 : R32 v1) (q2 : R32 v2) (m : mR) (hm : KCn m) (j : Nat → Int) : PP bb w D pm_87 (104, [(0, .ref 178), (1, .int (i32 v1)), (2, .int (i32 v2))], [], (khp m c, N), 0, 0) (QS (FX0 c N) (kfl_rd_state_104 v1 v2 m)) := by
  unfold kfl_rd_state_104
  show PP bb w D pm_87 (104, [(0, .ref 178), (1, .int (i32 v1)), (2, .int (i32 v2))], [], (khp (mO m [] []) c, N), 0, 0) _
  refine P_ld 105 (.ref 178) rfl (fun _ => rfl) ?_
  refine PK_gf 108 (.ref 31) rfl rfl kd_178 rfl rfl rfl ?_
  refine P_ld 109 (.int (i32 v2)) rfl (fun _ => rfl) ?_
  refine P_ld 110 (.int (i32 v1)) rfl (fun _ => rfl) ?_
  refine P_ck0 113 89 [.ref 31, .int (i32 v2), .int (i32 v1)] [] rfl (fun _ => rfl) rfl (D_ss_stand w m c N D hm v2 v1 q2 q1) (fun y24 n26 => ?_)
  refine P_ld 114 (.ref 178) rfl (fun _ => rfl) ?_
  refine PK_gf 117 (.ref 6) rfl rfl kd_178 rfl rfl rfl ?_
  refine P_ld 119 (.int (i32 123)) rfl (fun _ => rfl) ?_
  refine P_cx0 122 78 [.ref 6, .int (i32 123)] [] rfl (fun _ => rfl) rfl rfl (D_tx_expect w y24.2 c N D n26 123 (l32 123 rfl)) (fun y x hm e => ⟨_, rfl, hm, Or.inr ⟨x, e, rfl⟩⟩) (fun y27 n29 => ?_)
  refine P_ld 123 (.int (i32 0)) rfl (fun _ => rfl) ?_
  refine P_sto 124 [(3, .int (i32 0)), (0, .ref 178), (1, .int (i32 v1)), (2, .int (i32 v2))] rfl (fun _ => rfl) ?_
  refine P_lv (b := [(0, .ref 178), (1, .int (i32 v1)), (2, .int (i32 v2)), (3, .int (i32 0))]) rfl rfl ⟨rfl, rfl, rfl, rfl, trivial⟩ ?_
  refine P_bnd ?_
  refine P_whlx (TX := tx_rd_state_124 c N) (fun bb Q2 H1 H2 H3 s9 j9 hs9 => dh_rd_state_124 w c N D v2 q2 bb Q2 H1 H2 H3 s9 j9 hs9) bb (fun x r hr => ?_) (fun x0 j hx0 => ?_) (0, y27.2.2) (jk [(1, v1)]) ⟨(l32 0 rfl), n29⟩
  · skip
    cases x with
    | inl e => exact False.elim hr
    | inr x =>
      obtain ⟨x9, e9, k9, rfl⟩ := hr
      exact ⟨_, rfl, k9, Or.inr ⟨x9, e9, rfl⟩⟩
  cases x0 with
  | inl e30 =>
    have q31 := hx0
    have q32 := q31
    show PP bb w D pm_87 (155, [(0, .ref 178), (1, .int (i32 (j 1))), (2, .int (i32 v2)), (3, .int (i32 (j 3)))], [], (khp (mO e30 [] []) c, N), 0, 0) (QS _ (kfl_rd_state_155 v2 e30))
    exact dg_rd_state_155 w c N D bb v2 q2 e30 q32 (jk [(1, j 1), (3, j 3)])
  | inr e33 =>
    have q34 := hx0
    have q34 := q34
    exact False.elim q34
def kfl_rd_state_76 (v1 : Int) (m : mR) : Option (Int × Int × mR) :=
  bnd (kf_tx_makeNew 304 (m.1 221) 16 m) fun y35 =>
  if y35.1 = 0 then
    bnd (kf_ss_add v1 y35.2.2) fun y38 =>
    kfl_rd_state_104 v1 y38.1 y38.2
  else
    some (y35.1, 0, y35.2.2)
theorem dg_rd_state_76 (w : wX) (c : Nat → Option am_C) (N D : Nat) (bb : Nat) (v1 : Int) (q1 : R32 v1) (m : mR) (hm : KCn m) (j : Nat → Int) : PP bb w D pm_87 (76, [(0, .ref 178), (1, .int (i32 v1)), (2, .int (i32 (j 2)))], [], (khp m c, N), 0, 0) (QS (FX0 c N) (kfl_rd_state_76 v1 m)) := by
  unfold kfl_rd_state_76
  show PP bb w D pm_87 (76, [(0, .ref 178), (1, .int (i32 v1)), (2, .int (i32 (j 2)))], [], (khp (mO m [] []) c, N), 0, 0) _
  refine P_ld 77 (.ref 178) rfl (fun _ => rfl) ?_
  refine PK_gf 80 (.ref 6) rfl rfl kd_178 rfl rfl rfl ?_
  refine P_ld 83 (.int (i32 304)) rfl (fun _ => rfl) ?_
  refine P_ld 84 (.ref 178) rfl (fun _ => rfl) ?_
  refine PK_gf 87 (.ref 31) rfl rfl kd_178 rfl rfl rfl ?_
  refine PK_gf 90 (.int (i32 (m.1 221))) rfl rfl kd_31 rfl rfl rfl ?_
  refine P_ld 92 (.int (i32 16)) rfl (fun _ => rfl) ?_
  refine P_cx0 95 75 [.ref 6, .int (i32 304), .int (i32 (m.1 221)), .int (i32 16)] [] rfl (fun _ => rfl) rfl rfl (D_tx_makeNew w m c N D hm 304 (m.1 221) 16 (l32 304 rfl) (KCn_i hm 221 rfl) (l32 16 rfl)) (fun y x hm e => ⟨_, rfl, hm, Or.inr ⟨x, e, rfl⟩⟩) (fun y35 n37 => ?_)
  refine P_ld 96 (.ref 178) rfl (fun _ => rfl) ?_
  refine PK_gf 99 (.ref 31) rfl rfl kd_178 rfl rfl rfl ?_
  refine P_ld 100 (.int (i32 v1)) rfl (fun _ => rfl) ?_
  refine P_ck1 103 88 [.ref 31, .int (i32 v1)] [] rfl (fun _ => rfl) rfl (D_ss_add w y35.2.2 c N D n37 v1 q1) (fun y38 h39 n40 => ?_)
  refine P_sto 104 [(2, .int (i32 y38.1)), (0, .ref 178), (1, .int (i32 v1))] rfl (fun _ => rfl) ?_
  refine P_lv (b := [(0, .ref 178), (1, .int (i32 v1)), (2, .int (i32 y38.1))]) rfl rfl ⟨rfl, rfl, rfl, trivial⟩ ?_
  exact dg_rd_state_104 w c N D bb v1 y38.1 q1 h39 y38.2 n40 (jk [])
def kfl_rd_state_42 (v1 : Int) (u0 : Int) (m : mR) : Option (Int × Int × mR) :=
  if u0 < 0 then
    kfl_rd_state_76 v1 m
  else
    if (16 : Int) ≤ u0 then
      kfl_rd_state_76 v1 m
    else
      if (m.2 36) u0 = (-1) then
        bnd (kf_tx_advance m) fun y44 =>
        if y44.1 = 0 then
          kfl_rd_state_104 v1 u0 y44.2.2
        else
          some (y44.1, 0, y44.2.2)
      else
        kfl_rd_state_76 v1 m
theorem dg_rd_state_42 (w : wX) (c : Nat → Option am_C) (N D : Nat) (bb : Nat) (v1 : Int) (u0 : Int) (q1 : R32 v1) (r0 : R32 u0) (m : mR) (hm : KCn m) (j : Nat → Int) : PP bb w D pm_87 (42, [(0, .ref 178), (1, .int (i32 v1))], [.int (i32 u0)], (khp m c, N), 0, 0) (QS (FX0 c N) (kfl_rd_state_42 v1 u0 m)) := by
  unfold kfl_rd_state_42
  show PP bb w D pm_87 (42, [(0, .ref 178), (1, .int (i32 v1))], [.int (i32 u0)], (khp (mO m [] []) c, N), 0, 0) _
  refine P_sto 43 [(2, .int (i32 u0)), (0, .ref 178), (1, .int (i32 v1))] rfl (fun _ => rfl) ?_
  refine P_ld 44 (.int (i32 u0)) rfl (fun _ => rfl) ?_
  refine P_ifF 76 47 rfl rfl rfl r0 rfl (fun h41 => ?_) (fun h41 => ?_)
  · skip
    refine P_lv (b := [(0, .ref 178), (1, .int (i32 v1)), (2, .int (i32 u0))]) rfl rfl ⟨rfl, rfl, rfl, trivial⟩ ?_
    exact dg_rd_state_76 w c N D bb v1 q1 m hm (jk [(2, u0)])
  · skip
    refine P_ld 48 (.int (i32 u0)) rfl (fun _ => rfl) ?_
    refine P_ld 50 (.int (i32 16)) rfl (fun _ => rfl) ?_
    refine P_icF 76 53 rfl rfl rfl r0 (l32 16 rfl) rfl (fun h42 => ?_) (fun h42 => ?_)
    · skip
      refine P_lv (b := [(0, .ref 178), (1, .int (i32 v1)), (2, .int (i32 u0))]) rfl rfl ⟨rfl, rfl, rfl, trivial⟩ ?_
      exact dg_rd_state_76 w c N D bb v1 q1 m hm (jk [(2, u0)])
    · skip
      refine P_ld 54 (.ref 178) rfl (fun _ => rfl) ?_
      refine PK_gf 57 (.ref 31) rfl rfl kd_178 rfl rfl rfl ?_
      refine PK_gf 60 (.ref 42) rfl rfl kd_31 rfl rfl rfl ?_
      refine P_ld 61 (.int (i32 u0)) rfl (fun _ => rfl) ?_
      refine PK_iald2 62 36 (m.2 36) rfl rfl rfl r0 rfl ?_
      refine P_ld 63 (.int (i32 (-1))) rfl (fun _ => rfl) ?_
      refine P_icE 76 66 rfl rfl rfl (kE_i (KCn_a hm 36) rfl _) (l32 (-1) rfl) rfl (fun h43 => ?_) (fun h43 => ?_)
      · skip
        refine P_ld 67 (.ref 178) rfl (fun _ => rfl) ?_
        refine PK_gf 70 (.ref 6) rfl rfl kd_178 rfl rfl rfl ?_
        refine P_cx0 73 50 [.ref 6] [] rfl (fun _ => rfl) rfl rfl (D_tx_advance w m c N D hm) (fun y x hm e => ⟨_, rfl, hm, Or.inr ⟨x, e, rfl⟩⟩) (fun y44 n46 => ?_)
        refine P_goto 104 rfl (fun _ => rfl) ?_
        refine P_lv (b := [(0, .ref 178), (1, .int (i32 v1)), (2, .int (i32 u0))]) rfl rfl ⟨rfl, rfl, rfl, trivial⟩ ?_
        exact dg_rd_state_104 w c N D bb v1 u0 q1 r0 y44.2.2 n46 (jk [])
      · skip
        refine P_lv (b := [(0, .ref 178), (1, .int (i32 v1)), (2, .int (i32 u0))]) rfl rfl ⟨rfl, rfl, rfl, trivial⟩ ?_
        exact dg_rd_state_76 w c N D bb v1 q1 m hm (jk [(2, u0)])
def kf_rd_state (m : mR) : Option (Int × Int × mR) :=
  bnd (kf_tx_advance m) fun y47 =>
  if y47.1 = 0 then
    if y47.2.2.1 206 = 256 then
      bnd (kf_tx_indexOf 304 y47.2.2) fun y51 =>
      kfl_rd_state_42 (y47.2.2.1 207) y51 y47.2.2
    else
      kfl_rd_state_42 (y47.2.2.1 207) (-1) y47.2.2
  else
    some (y47.1, 0, y47.2.2)
theorem D_rd_state (w : wX) (m : mR) (c : Nat → Option am_C) (N D : Nat) (hm : KCn m) : PC w D 87 [.ref 178] (khp m c, N) (QS (FX0 c N) (kf_rd_state m)) := by
  refine Pc_of (fun D bb => ?_) D
  unfold kf_rd_state
  show PP bb w D pm_87 (0, [(0, .ref 178)], [], (khp (mO m [] []) c, N), 0, 0) _
  refine P_ld 1 (.ref 178) rfl (fun _ => rfl) ?_
  refine PK_gf 4 (.ref 6) rfl rfl kd_178 rfl rfl rfl ?_
  refine P_cx0 7 50 [.ref 6] [] rfl (fun _ => rfl) rfl rfl (D_tx_advance w m c N D hm) (fun y x hm e => ⟨_, rfl, hm, Or.inr ⟨x, e, rfl⟩⟩) (fun y47 n49 => ?_)
  refine P_ld 8 (.ref 178) rfl (fun _ => rfl) ?_
  refine PK_gf 11 (.ref 6) rfl rfl kd_178 rfl rfl rfl ?_
  refine PK_gf 14 (.int (i32 (y47.2.2.1 207))) rfl rfl kd_6 rfl rfl rfl ?_
  refine P_sto 15 [(1, .int (i32 (y47.2.2.1 207))), (0, .ref 178)] rfl (fun _ => rfl) ?_
  refine P_ld 16 (.ref 178) rfl (fun _ => rfl) ?_
  refine PK_gf 19 (.ref 6) rfl rfl kd_178 rfl rfl rfl ?_
  refine PK_gf 22 (.int (i32 (y47.2.2.1 206))) rfl rfl kd_6 rfl rfl rfl ?_
  refine P_ld 25 (.int (i32 256)) rfl (fun _ => rfl) ?_
  refine P_icE 41 28 rfl rfl rfl (KCn_i n49 206 rfl) (l32 256 rfl) rfl (fun h50 => ?_) (fun h50 => ?_)
  · skip
    refine P_ld 29 (.ref 178) rfl (fun _ => rfl) ?_
    refine PK_gf 32 (.ref 6) rfl rfl kd_178 rfl rfl rfl ?_
    refine P_ld 35 (.int (i32 304)) rfl (fun _ => rfl) ?_
    refine P_cp1 38 84 [.ref 6, .int (i32 304)] [] rfl (fun _ => rfl) rfl (D_tx_indexOf w y47.2.2 c N D n49 304 (l32 304 rfl)) (fun y51 h52 => ?_)
    refine P_goto 42 rfl (fun _ => rfl) ?_
    refine P_lv (b := [(0, .ref 178), (1, .int (i32 (y47.2.2.1 207)))]) rfl rfl ⟨rfl, rfl, trivial⟩ ?_
    exact dg_rd_state_42 w c N D bb (y47.2.2.1 207) y51 (KCn_i n49 207 rfl) h52 y47.2.2 n49 (jk [])
  · skip
    refine P_ld 42 (.int (i32 (-1))) rfl (fun _ => rfl) ?_
    refine P_lv (b := [(0, .ref 178), (1, .int (i32 (y47.2.2.1 207)))]) rfl rfl ⟨rfl, rfl, trivial⟩ ?_
    exact dg_rd_state_42 w c N D bb (y47.2.2.1 207) (-1) (KCn_i n49 207 rfl) (l32 (-1) rfl) y47.2.2 n49 (jk [])
def kf_rd_array (m : mR) : Option (Int × Int × mR) :=
  bnd (kf_tx_advance m) fun y1 =>
  if y1.1 = 0 then
    bnd (kf_tx_makeNew 303 (y1.2.2.1 217) 8 y1.2.2) fun y4 =>
    if y4.1 = 0 then
      bnd (kf_tx_expect 58 (mO y4.2.2 [(217, cut ((y4.2.2.1 217) + 1))] [])) fun y7 =>
      if y7.1 = 0 then
        bnd (kf_tx_within 1 64 y7.2.2) fun y10 =>
        if y10.1 = 0 then
          bnd (kf_tx_expect 91 (mO y10.2.2 [] [(15, upI (y10.2.2.2 15) (y1.2.2.1 217) y10.2.1)])) fun y13 =>
          if y13.1 = 0 then
            bnd (kf_tx_within 1 64 y13.2.2) fun y16 =>
            if y16.1 = 0 then
              bnd (kf_tx_expect 93 (mO y16.2.2 [] [(16, upI (y16.2.2.2 16) (y1.2.2.1 217) y16.2.1)])) fun y19 =>
              if y19.1 = 0 then
                bnd (kf_tx_expect 59 y19.2.2) fun y22 =>
                if y22.1 = 0 then
                  some (0, 0, y22.2.2)
                else
                  some (y22.1, 0, y22.2.2)
              else
                some (y19.1, 0, y19.2.2)
            else
              some (y16.1, 0, y16.2.2)
          else
            some (y13.1, 0, y13.2.2)
        else
          some (y10.1, 0, y10.2.2)
      else
        some (y7.1, 0, y7.2.2)
    else
      some (y4.1, 0, y4.2.2)
  else
    some (y1.1, 0, y1.2.2)
theorem D_rd_array (w : wX) (m : mR) (c : Nat → Option am_C) (N D : Nat) (hm : KCn m) : PC w D 86 [.ref 178] (khp m c, N) (QS (FX0 c N) (kf_rd_array m)) := by
  refine Pc_of (fun D bb => ?_) D
  unfold kf_rd_array
  show PP bb w D pm_86 (0, [(0, .ref 178)], [], (khp (mO m [] []) c, N), 0, 0) _
  refine P_ld 1 (.ref 178) rfl (fun _ => rfl) ?_
  refine PK_gf 4 (.ref 6) rfl rfl kd_178 rfl rfl rfl ?_
  refine P_cx0 7 50 [.ref 6] [] rfl (fun _ => rfl) rfl rfl (D_tx_advance w m c N D hm) (fun y x hm e => ⟨_, rfl, hm, Or.inr ⟨x, e, rfl⟩⟩) (fun y1 n3 => ?_)
  refine P_ld 8 (.ref 178) rfl (fun _ => rfl) ?_
  refine PK_gf 11 (.ref 12) rfl rfl kd_178 rfl rfl rfl ?_
  refine PK_gf 14 (.int (i32 (y1.2.2.1 217))) rfl rfl kd_12 rfl rfl rfl ?_
  refine P_sto 15 [(1, .int (i32 (y1.2.2.1 217))), (0, .ref 178)] rfl (fun _ => rfl) ?_
  refine P_ld 16 (.ref 178) rfl (fun _ => rfl) ?_
  refine PK_gf 19 (.ref 6) rfl rfl kd_178 rfl rfl rfl ?_
  refine P_ld 22 (.int (i32 303)) rfl (fun _ => rfl) ?_
  refine P_ld 23 (.int (i32 (y1.2.2.1 217))) rfl (fun _ => rfl) ?_
  refine P_ld 25 (.int (i32 8)) rfl (fun _ => rfl) ?_
  refine P_cx0 28 75 [.ref 6, .int (i32 303), .int (i32 (y1.2.2.1 217)), .int (i32 8)] [] rfl (fun _ => rfl) rfl rfl (D_tx_makeNew w y1.2.2 c N D n3 303 (y1.2.2.1 217) 8 (l32 303 rfl) (KCn_i n3 217 rfl) (l32 8 rfl)) (fun y x hm e => ⟨_, rfl, hm, Or.inr ⟨x, e, rfl⟩⟩) (fun y4 n6 => ?_)
  refine P_ld 29 (.ref 178) rfl (fun _ => rfl) ?_
  refine PK_gf 32 (.ref 12) rfl rfl kd_178 rfl rfl rfl ?_
  refine P_ld 33 (.ref 12) rfl (fun _ => rfl) ?_
  refine PK_gf 36 (.int (i32 (y4.2.2.1 217))) rfl rfl kd_12 rfl rfl rfl ?_
  refine P_ld 37 (.int (i32 1)) rfl (fun _ => rfl) ?_
  refine P_op 38 (cut ((y4.2.2.1 217) + 1)) _ rfl (fun _ => rfl) o_add ?_
  refine PK_pf (l' := [(217, cut ((y4.2.2.1 217) + 1))]) 41 (cut ((y4.2.2.1 217) + 1)) rfl rfl kd_12 rfl rfl rfl rfl rfl rfl rfl ?_
  refine P_ld 42 (.ref 178) rfl (fun _ => rfl) ?_
  refine PK_gf 45 (.ref 6) rfl rfl kd_178 rfl rfl rfl ?_
  refine P_ld 47 (.int (i32 58)) rfl (fun _ => rfl) ?_
  refine P_cx0 50 78 [.ref 6, .int (i32 58)] [] rfl (fun _ => rfl) rfl rfl (D_tx_expect w (mO y4.2.2 [(217, cut ((y4.2.2.1 217) + 1))] []) c N D (KCn_mO n6 rfl rfl ⟨(kV_i rfl cut_r), trivial⟩ trivial) 58 (l32 58 rfl)) (fun y x hm e => ⟨_, rfl, hm, Or.inr ⟨x, e, rfl⟩⟩) (fun y7 n9 => ?_)
  refine P_ld 51 (.ref 178) rfl (fun _ => rfl) ?_
  refine PK_gf 54 (.ref 12) rfl rfl kd_178 rfl rfl rfl ?_
  refine PK_gf 57 (.ref 18) rfl rfl kd_12 rfl rfl rfl ?_
  refine P_ld 58 (.int (i32 (y1.2.2.1 217))) rfl (fun _ => rfl) ?_
  refine P_ld 59 (.ref 178) rfl (fun _ => rfl) ?_
  refine PK_gf 62 (.ref 6) rfl rfl kd_178 rfl rfl rfl ?_
  refine P_ld 63 (.int (i32 1)) rfl (fun _ => rfl) ?_
  refine P_ld 65 (.int (i32 64)) rfl (fun _ => rfl) ?_
  refine P_cx1 68 81 [.ref 6, .int (i32 1), .int (i32 64)] [.int (i32 (y1.2.2.1 217)), .ref 18] rfl (fun _ => rfl) rfl rfl (D_tx_within w y7.2.2 c N D n9 1 64 (l32 1 rfl) (l32 64 rfl)) (fun y x hm e => ⟨_, rfl, hm, Or.inr ⟨x, e, rfl⟩⟩) (fun y10 h11 n12 => ?_)
  refine PK_iast2 (a' := [(15, upI (y10.2.2.2 15) (y1.2.2.1 217) y10.2.1)]) 69 15 (y10.2.2.2 15) rfl rfl rfl (KCn_i n3 217 rfl) rfl rfl ?_
  refine P_ld 70 (.ref 178) rfl (fun _ => rfl) ?_
  refine PK_gf 73 (.ref 6) rfl rfl kd_178 rfl rfl rfl ?_
  refine P_ld 75 (.int (i32 91)) rfl (fun _ => rfl) ?_
  refine P_cx0 78 78 [.ref 6, .int (i32 91)] [] rfl (fun _ => rfl) rfl rfl (D_tx_expect w (mO y10.2.2 [] [(15, upI (y10.2.2.2 15) (y1.2.2.1 217) y10.2.1)]) c N D (KCn_mO n12 rfl rfl trivial ⟨(kE_ui (KCn_a n12 15) rfl h11), trivial⟩) 91 (l32 91 rfl)) (fun y x hm e => ⟨_, rfl, hm, Or.inr ⟨x, e, rfl⟩⟩) (fun y13 n15 => ?_)
  refine P_ld 79 (.ref 178) rfl (fun _ => rfl) ?_
  refine PK_gf 82 (.ref 12) rfl rfl kd_178 rfl rfl rfl ?_
  refine PK_gf 85 (.ref 19) rfl rfl kd_12 rfl rfl rfl ?_
  refine P_ld 86 (.int (i32 (y1.2.2.1 217))) rfl (fun _ => rfl) ?_
  refine P_ld 87 (.ref 178) rfl (fun _ => rfl) ?_
  refine PK_gf 90 (.ref 6) rfl rfl kd_178 rfl rfl rfl ?_
  refine P_ld 91 (.int (i32 1)) rfl (fun _ => rfl) ?_
  refine P_ld 93 (.int (i32 64)) rfl (fun _ => rfl) ?_
  refine P_cx1 96 81 [.ref 6, .int (i32 1), .int (i32 64)] [.int (i32 (y1.2.2.1 217)), .ref 19] rfl (fun _ => rfl) rfl rfl (D_tx_within w y13.2.2 c N D n15 1 64 (l32 1 rfl) (l32 64 rfl)) (fun y x hm e => ⟨_, rfl, hm, Or.inr ⟨x, e, rfl⟩⟩) (fun y16 h17 n18 => ?_)
  refine PK_iast2 (a' := [(16, upI (y16.2.2.2 16) (y1.2.2.1 217) y16.2.1)]) 97 16 (y16.2.2.2 16) rfl rfl rfl (KCn_i n3 217 rfl) rfl rfl ?_
  refine P_ld 98 (.ref 178) rfl (fun _ => rfl) ?_
  refine PK_gf 101 (.ref 6) rfl rfl kd_178 rfl rfl rfl ?_
  refine P_ld 103 (.int (i32 93)) rfl (fun _ => rfl) ?_
  refine P_cx0 106 78 [.ref 6, .int (i32 93)] [] rfl (fun _ => rfl) rfl rfl (D_tx_expect w (mO y16.2.2 [] [(16, upI (y16.2.2.2 16) (y1.2.2.1 217) y16.2.1)]) c N D (KCn_mO n18 rfl rfl trivial ⟨(kE_ui (KCn_a n18 16) rfl h17), trivial⟩) 93 (l32 93 rfl)) (fun y x hm e => ⟨_, rfl, hm, Or.inr ⟨x, e, rfl⟩⟩) (fun y19 n21 => ?_)
  refine P_ld 107 (.ref 178) rfl (fun _ => rfl) ?_
  refine PK_gf 110 (.ref 6) rfl rfl kd_178 rfl rfl rfl ?_
  refine P_ld 112 (.int (i32 59)) rfl (fun _ => rfl) ?_
  refine P_cx0 115 78 [.ref 6, .int (i32 59)] [] rfl (fun _ => rfl) rfl rfl (D_tx_expect w y19.2.2 c N D n21 59 (l32 59 rfl)) (fun y x hm e => ⟨_, rfl, hm, Or.inr ⟨x, e, rfl⟩⟩) (fun y22 n24 => ?_)
  exact P_rx0 rfl rfl n24
def kf_rd_meta (m : mR) : Option (Int × Int × mR) :=
  bnd (kf_tx_advance m) fun y1 =>
  if y1.1 = 0 then
    bnd (kf_tx_makeNew 302 (y1.2.2.1 216) 16 y1.2.2) fun y4 =>
    if y4.1 = 0 then
      bnd (kf_tx_expect 58 (mO y4.2.2 [(216, cut ((y4.2.2.1 216) + 1))] [])) fun y7 =>
      if y7.1 = 0 then
        bnd (kf_tx_within 1 64 y7.2.2) fun y10 =>
        if y10.1 = 0 then
          bnd (kf_tx_expect 59 (mO y10.2.2 [] [(14, upI (y10.2.2.2 14) (y1.2.2.1 216) y10.2.1)])) fun y13 =>
          if y13.1 = 0 then
            some (0, 0, y13.2.2)
          else
            some (y13.1, 0, y13.2.2)
        else
          some (y10.1, 0, y10.2.2)
      else
        some (y7.1, 0, y7.2.2)
    else
      some (y4.1, 0, y4.2.2)
  else
    some (y1.1, 0, y1.2.2)
theorem D_rd_meta (w : wX) (m : mR) (c : Nat → Option am_C) (N D : Nat) (hm : KCn m) : PC w D 85 [.ref 178] (khp m c, N) (QS (FX0 c N) (kf_rd_meta m)) := by
  refine Pc_of (fun D bb => ?_) D
  unfold kf_rd_meta
  show PP bb w D pm_85 (0, [(0, .ref 178)], [], (khp (mO m [] []) c, N), 0, 0) _
  refine P_ld 1 (.ref 178) rfl (fun _ => rfl) ?_
  refine PK_gf 4 (.ref 6) rfl rfl kd_178 rfl rfl rfl ?_
  refine P_cx0 7 50 [.ref 6] [] rfl (fun _ => rfl) rfl rfl (D_tx_advance w m c N D hm) (fun y x hm e => ⟨_, rfl, hm, Or.inr ⟨x, e, rfl⟩⟩) (fun y1 n3 => ?_)
  refine P_ld 8 (.ref 178) rfl (fun _ => rfl) ?_
  refine PK_gf 11 (.ref 12) rfl rfl kd_178 rfl rfl rfl ?_
  refine PK_gf 14 (.int (i32 (y1.2.2.1 216))) rfl rfl kd_12 rfl rfl rfl ?_
  refine P_sto 15 [(1, .int (i32 (y1.2.2.1 216))), (0, .ref 178)] rfl (fun _ => rfl) ?_
  refine P_ld 16 (.ref 178) rfl (fun _ => rfl) ?_
  refine PK_gf 19 (.ref 6) rfl rfl kd_178 rfl rfl rfl ?_
  refine P_ld 22 (.int (i32 302)) rfl (fun _ => rfl) ?_
  refine P_ld 23 (.int (i32 (y1.2.2.1 216))) rfl (fun _ => rfl) ?_
  refine P_ld 25 (.int (i32 16)) rfl (fun _ => rfl) ?_
  refine P_cx0 28 75 [.ref 6, .int (i32 302), .int (i32 (y1.2.2.1 216)), .int (i32 16)] [] rfl (fun _ => rfl) rfl rfl (D_tx_makeNew w y1.2.2 c N D n3 302 (y1.2.2.1 216) 16 (l32 302 rfl) (KCn_i n3 216 rfl) (l32 16 rfl)) (fun y x hm e => ⟨_, rfl, hm, Or.inr ⟨x, e, rfl⟩⟩) (fun y4 n6 => ?_)
  refine P_ld 29 (.ref 178) rfl (fun _ => rfl) ?_
  refine PK_gf 32 (.ref 12) rfl rfl kd_178 rfl rfl rfl ?_
  refine P_ld 33 (.ref 12) rfl (fun _ => rfl) ?_
  refine PK_gf 36 (.int (i32 (y4.2.2.1 216))) rfl rfl kd_12 rfl rfl rfl ?_
  refine P_ld 37 (.int (i32 1)) rfl (fun _ => rfl) ?_
  refine P_op 38 (cut ((y4.2.2.1 216) + 1)) _ rfl (fun _ => rfl) o_add ?_
  refine PK_pf (l' := [(216, cut ((y4.2.2.1 216) + 1))]) 41 (cut ((y4.2.2.1 216) + 1)) rfl rfl kd_12 rfl rfl rfl rfl rfl rfl rfl ?_
  refine P_ld 42 (.ref 178) rfl (fun _ => rfl) ?_
  refine PK_gf 45 (.ref 6) rfl rfl kd_178 rfl rfl rfl ?_
  refine P_ld 47 (.int (i32 58)) rfl (fun _ => rfl) ?_
  refine P_cx0 50 78 [.ref 6, .int (i32 58)] [] rfl (fun _ => rfl) rfl rfl (D_tx_expect w (mO y4.2.2 [(216, cut ((y4.2.2.1 216) + 1))] []) c N D (KCn_mO n6 rfl rfl ⟨(kV_i rfl cut_r), trivial⟩ trivial) 58 (l32 58 rfl)) (fun y x hm e => ⟨_, rfl, hm, Or.inr ⟨x, e, rfl⟩⟩) (fun y7 n9 => ?_)
  refine P_ld 51 (.ref 178) rfl (fun _ => rfl) ?_
  refine PK_gf 54 (.ref 12) rfl rfl kd_178 rfl rfl rfl ?_
  refine PK_gf 57 (.ref 17) rfl rfl kd_12 rfl rfl rfl ?_
  refine P_ld 58 (.int (i32 (y1.2.2.1 216))) rfl (fun _ => rfl) ?_
  refine P_ld 59 (.ref 178) rfl (fun _ => rfl) ?_
  refine PK_gf 62 (.ref 6) rfl rfl kd_178 rfl rfl rfl ?_
  refine P_ld 63 (.int (i32 1)) rfl (fun _ => rfl) ?_
  refine P_ld 65 (.int (i32 64)) rfl (fun _ => rfl) ?_
  refine P_cx1 68 81 [.ref 6, .int (i32 1), .int (i32 64)] [.int (i32 (y1.2.2.1 216)), .ref 17] rfl (fun _ => rfl) rfl rfl (D_tx_within w y7.2.2 c N D n9 1 64 (l32 1 rfl) (l32 64 rfl)) (fun y x hm e => ⟨_, rfl, hm, Or.inr ⟨x, e, rfl⟩⟩) (fun y10 h11 n12 => ?_)
  refine PK_iast2 (a' := [(14, upI (y10.2.2.2 14) (y1.2.2.1 216) y10.2.1)]) 69 14 (y10.2.2.2 14) rfl rfl rfl (KCn_i n3 216 rfl) rfl rfl ?_
  refine P_ld 70 (.ref 178) rfl (fun _ => rfl) ?_
  refine PK_gf 73 (.ref 6) rfl rfl kd_178 rfl rfl rfl ?_
  refine P_ld 75 (.int (i32 59)) rfl (fun _ => rfl) ?_
  refine P_cx0 78 78 [.ref 6, .int (i32 59)] [] rfl (fun _ => rfl) rfl rfl (D_tx_expect w (mO y10.2.2 [] [(14, upI (y10.2.2.2 14) (y1.2.2.1 216) y10.2.1)]) c N D (KCn_mO n12 rfl rfl trivial ⟨(kE_ui (KCn_a n12 14) rfl h11), trivial⟩) 59 (l32 59 rfl)) (fun y x hm e => ⟨_, rfl, hm, Or.inr ⟨x, e, rfl⟩⟩) (fun y13 n15 => ?_)
  exact P_rx0 rfl rfl n15
def kf_rd_instance (m : mR) : Option (Int × Int × mR) :=
  bnd (kf_tx_advance m) fun y1 =>
  if y1.1 = 0 then
    bnd (kf_tx_makeNew 301 (y1.2.2.1 215) 12 y1.2.2) fun y4 =>
    if y4.1 = 0 then
      bnd (kf_tx_expect 58 (mO y4.2.2 [(215, cut ((y4.2.2.1 215) + 1))] [])) fun y7 =>
      if y7.1 = 0 then
        bnd (kf_tx_known 300 y7.2.2) fun y10 =>
        if y10.1 = 0 then
          bnd (kf_tx_expect 59 (mO y10.2.2 [] [(13, upI (y10.2.2.2 13) (y1.2.2.1 215) y10.2.1)])) fun y13 =>
          if y13.1 = 0 then
            some (0, 0, y13.2.2)
          else
            some (y13.1, 0, y13.2.2)
        else
          some (y10.1, 0, y10.2.2)
      else
        some (y7.1, 0, y7.2.2)
    else
      some (y4.1, 0, y4.2.2)
  else
    some (y1.1, 0, y1.2.2)
theorem D_rd_instance (w : wX) (m : mR) (c : Nat → Option am_C) (N D : Nat) (hm : KCn m) : PC w D 82 [.ref 178] (khp m c, N) (QS (FX0 c N) (kf_rd_instance m)) := by
  refine Pc_of (fun D bb => ?_) D
  unfold kf_rd_instance
  show PP bb w D pm_82 (0, [(0, .ref 178)], [], (khp (mO m [] []) c, N), 0, 0) _
  refine P_ld 1 (.ref 178) rfl (fun _ => rfl) ?_
  refine PK_gf 4 (.ref 6) rfl rfl kd_178 rfl rfl rfl ?_
  refine P_cx0 7 50 [.ref 6] [] rfl (fun _ => rfl) rfl rfl (D_tx_advance w m c N D hm) (fun y x hm e => ⟨_, rfl, hm, Or.inr ⟨x, e, rfl⟩⟩) (fun y1 n3 => ?_)
  refine P_ld 8 (.ref 178) rfl (fun _ => rfl) ?_
  refine PK_gf 11 (.ref 12) rfl rfl kd_178 rfl rfl rfl ?_
  refine PK_gf 14 (.int (i32 (y1.2.2.1 215))) rfl rfl kd_12 rfl rfl rfl ?_
  refine P_sto 15 [(1, .int (i32 (y1.2.2.1 215))), (0, .ref 178)] rfl (fun _ => rfl) ?_
  refine P_ld 16 (.ref 178) rfl (fun _ => rfl) ?_
  refine PK_gf 19 (.ref 6) rfl rfl kd_178 rfl rfl rfl ?_
  refine P_ld 22 (.int (i32 301)) rfl (fun _ => rfl) ?_
  refine P_ld 23 (.int (i32 (y1.2.2.1 215))) rfl (fun _ => rfl) ?_
  refine P_ld 25 (.int (i32 12)) rfl (fun _ => rfl) ?_
  refine P_cx0 28 75 [.ref 6, .int (i32 301), .int (i32 (y1.2.2.1 215)), .int (i32 12)] [] rfl (fun _ => rfl) rfl rfl (D_tx_makeNew w y1.2.2 c N D n3 301 (y1.2.2.1 215) 12 (l32 301 rfl) (KCn_i n3 215 rfl) (l32 12 rfl)) (fun y x hm e => ⟨_, rfl, hm, Or.inr ⟨x, e, rfl⟩⟩) (fun y4 n6 => ?_)
  refine P_ld 29 (.ref 178) rfl (fun _ => rfl) ?_
  refine PK_gf 32 (.ref 12) rfl rfl kd_178 rfl rfl rfl ?_
  refine P_ld 33 (.ref 12) rfl (fun _ => rfl) ?_
  refine PK_gf 36 (.int (i32 (y4.2.2.1 215))) rfl rfl kd_12 rfl rfl rfl ?_
  refine P_ld 37 (.int (i32 1)) rfl (fun _ => rfl) ?_
  refine P_op 38 (cut ((y4.2.2.1 215) + 1)) _ rfl (fun _ => rfl) o_add ?_
  refine PK_pf (l' := [(215, cut ((y4.2.2.1 215) + 1))]) 41 (cut ((y4.2.2.1 215) + 1)) rfl rfl kd_12 rfl rfl rfl rfl rfl rfl rfl ?_
  refine P_ld 42 (.ref 178) rfl (fun _ => rfl) ?_
  refine PK_gf 45 (.ref 6) rfl rfl kd_178 rfl rfl rfl ?_
  refine P_ld 47 (.int (i32 58)) rfl (fun _ => rfl) ?_
  refine P_cx0 50 78 [.ref 6, .int (i32 58)] [] rfl (fun _ => rfl) rfl rfl (D_tx_expect w (mO y4.2.2 [(215, cut ((y4.2.2.1 215) + 1))] []) c N D (KCn_mO n6 rfl rfl ⟨(kV_i rfl cut_r), trivial⟩ trivial) 58 (l32 58 rfl)) (fun y x hm e => ⟨_, rfl, hm, Or.inr ⟨x, e, rfl⟩⟩) (fun y7 n9 => ?_)
  refine P_ld 51 (.ref 178) rfl (fun _ => rfl) ?_
  refine PK_gf 54 (.ref 12) rfl rfl kd_178 rfl rfl rfl ?_
  refine PK_gf 57 (.ref 16) rfl rfl kd_12 rfl rfl rfl ?_
  refine P_ld 58 (.int (i32 (y1.2.2.1 215))) rfl (fun _ => rfl) ?_
  refine P_ld 59 (.ref 178) rfl (fun _ => rfl) ?_
  refine PK_gf 62 (.ref 6) rfl rfl kd_178 rfl rfl rfl ?_
  refine P_ld 65 (.int (i32 300)) rfl (fun _ => rfl) ?_
  refine P_cx1 68 83 [.ref 6, .int (i32 300)] [.int (i32 (y1.2.2.1 215)), .ref 16] rfl (fun _ => rfl) rfl rfl (D_tx_known w y7.2.2 c N D n9 300 (l32 300 rfl)) (fun y x hm e => ⟨_, rfl, hm, Or.inr ⟨x, e, rfl⟩⟩) (fun y10 h11 n12 => ?_)
  refine PK_iast2 (a' := [(13, upI (y10.2.2.2 13) (y1.2.2.1 215) y10.2.1)]) 69 13 (y10.2.2.2 13) rfl rfl rfl (KCn_i n3 215 rfl) rfl rfl ?_
  refine P_ld 70 (.ref 178) rfl (fun _ => rfl) ?_
  refine PK_gf 73 (.ref 6) rfl rfl kd_178 rfl rfl rfl ?_
  refine P_ld 75 (.int (i32 59)) rfl (fun _ => rfl) ?_
  refine P_cx0 78 78 [.ref 6, .int (i32 59)] [] rfl (fun _ => rfl) rfl rfl (D_tx_expect w (mO y10.2.2 [] [(13, upI (y10.2.2.2 13) (y1.2.2.1 215) y10.2.1)]) c N D (KCn_mO n12 rfl rfl trivial ⟨(kE_ui (KCn_a n12 13) rfl h11), trivial⟩) 59 (l32 59 rfl)) (fun y x hm e => ⟨_, rfl, hm, Or.inr ⟨x, e, rfl⟩⟩) (fun y13 n15 => ?_)
  exact P_rx0 rfl rfl n15
def cs_pr_headerBits_4 (s : Int × Int) : Prop := R32 s.1 ∧ R32 s.2
def cx_pr_headerBits_4 : (Int) → Prop := (fun (e : Int) => R32 e)
def hd_pr_headerBits_4 (c : Nat → Option am_C) (N : Nat) (v1 : Int) (m : mR) (s : Int × Int) (j : Nat → Int) : ag_St af_T := (4, [(0, .ref 12), (1, .int (i32 v1)), (2, .int (i32 s.1)), (3, .int (i32 s.2))], [], (khp m c, N), 0, 0)
def ex_pr_headerBits_4 (c : Nat → Option am_C) (N : Nat) (v1 : Int) (m : mR) : (Int) → (Nat → Int) → ag_St af_T := (fun (e : Int) (j : Nat → Int) => ((30, [(0, .ref 12), (1, .int (i32 (j 1))), (2, .int (i32 e)), (3, .int (i32 (j 3)))], [], (khp m c, N), 0, 0) : ag_St af_T))
def kfb_pr_headerBits_4 (v1 : Int) (m : mR) (s : Int × Int) : Option (Sum (Int × Int) (Int)) :=
  if (16 : Int) ≤ s.2 then
    some (.inr s.1)
  else
    some (.inl (cut (s.1 + ((m.2 10) (cut ((cut (v1 * 16)) + s.2)))), cut (s.2 + 1)))
theorem dh_pr_headerBits_4 (w : wX) (c : Nat → Option am_C) (N D : Nat) (v1 : Int) (q1 : R32 v1) (m : mR) (hm : KCn m) (bb : Nat) (Q2 : Sum (Int × Int) (Int) → ag_Re af_T → Prop) (H1 : ∀ s j, cs_pr_headerBits_4 s → PP bb w D pm_29 (hd_pr_headerBits_4 c N v1 m s j) (Q2 (.inl s))) (H2 : ∀ x j, cx_pr_headerBits_4 x → PP bb w D pm_29 (ex_pr_headerBits_4 c N v1 m x j) (Q2 (.inr x))) (s : Int × Int) (j : Nat → Int) (hs : cs_pr_headerBits_4 s) : PP (bb + 1) w D pm_29 (hd_pr_headerBits_4 c N v1 m s j) (QS Q2 (kfb_pr_headerBits_4 v1 m s)) := by
  obtain ⟨g2, g3⟩ := hs
  unfold kfb_pr_headerBits_4
  show PP (bb + 1) w D pm_29 (4, [(0, .ref 12), (1, .int (i32 v1)), (2, .int (i32 s.1)), (3, .int (i32 s.2))], [], (khp (mO m [] []) c, N), 0, 0) _
  refine P1_ld 5 (.int (i32 s.2)) rfl (fun _ => rfl) ?_
  refine P_ld 7 (.int (i32 16)) rfl (fun _ => rfl) ?_
  refine P_icF 30 10 rfl rfl rfl g3 (l32 16 rfl) rfl (fun h3 => ?_) (fun h3 => ?_)
  · skip
    refine P_some ?_
    exact H2 s.1 (jk [(1, v1), (3, s.2)]) g2
  · skip
    refine P_ld 11 (.int (i32 s.1)) rfl (fun _ => rfl) ?_
    refine P_ld 12 (.ref 12) rfl (fun _ => rfl) ?_
    refine PK_gf 15 (.ref 13) rfl rfl kd_12 rfl rfl rfl ?_
    refine P_ld 16 (.int (i32 v1)) rfl (fun _ => rfl) ?_
    refine P_ld 18 (.int (i32 16)) rfl (fun _ => rfl) ?_
    refine P_op 19 (cut (v1 * 16)) _ rfl (fun _ => rfl) o_mul ?_
    refine P_ld 20 (.int (i32 s.2)) rfl (fun _ => rfl) ?_
    refine P_op 21 (cut ((cut (v1 * 16)) + s.2)) _ rfl (fun _ => rfl) o_add ?_
    refine PK_iald2 22 10 (m.2 10) rfl rfl rfl cut_r rfl ?_
    refine P_op 23 (cut (s.1 + ((m.2 10) (cut ((cut (v1 * 16)) + s.2))))) _ rfl (fun _ => rfl) o_add ?_
    refine P_sto 24 [(2, .int (i32 (cut (s.1 + ((m.2 10) (cut ((cut (v1 * 16)) + s.2))))))), (0, .ref 12), (1, .int (i32 v1)), (3, .int (i32 s.2))] rfl (fun _ => rfl) ?_
    refine P_inc 27 [(3, .int (i32 (cut (s.2 + 1)))), (2, .int (i32 (cut (s.1 + ((m.2 10) (cut ((cut (v1 * 16)) + s.2))))))), (0, .ref 12), (1, .int (i32 v1))] rfl rfl (by decide) rfl rfl ?_
    refine P_goto 4 rfl (fun _ => rfl) ?_
    refine P_some ?_
    refine P_lv (b := [(0, .ref 12), (1, .int (i32 v1)), (2, .int (i32 (cut (s.1 + ((m.2 10) (cut ((cut (v1 * 16)) + s.2))))))), (3, .int (i32 (cut (s.2 + 1))))]) rfl rfl ⟨rfl, rfl, rfl, rfl, trivial⟩ ?_
    exact H1 (cut (s.1 + ((m.2 10) (cut ((cut (v1 * 16)) + s.2)))), cut (s.2 + 1)) (jk []) ⟨cut_r, cut_r⟩
def kf_pr_headerBits (v1 : Int) (m : mR) : Option Int :=
  bnd (whl (kfb_pr_headerBits_4 v1 m) (0, 0)) (fun e4 : Int =>
    some e4)
theorem D_pr_headerBits (w : wX) (m : mR) (c : Nat → Option am_C) (N D : Nat) (hm : KCn m) (v1 : Int) (q1 : R32 v1) : PC w D 29 [.ref 12, .int (i32 v1)] (khp m c, N) (QS (FP1 (khp m c, N)) (kf_pr_headerBits v1 m)) := by
  refine Pc_of (fun D bb => ?_) D
  unfold kf_pr_headerBits
  show PP bb w D pm_29 (0, [(0, .ref 12), (1, .int (i32 v1))], [], (khp (mO m [] []) c, N), 0, 0) _
  refine P_ld 1 (.int (i32 0)) rfl (fun _ => rfl) ?_
  refine P_sto 2 [(2, .int (i32 0)), (0, .ref 12), (1, .int (i32 v1))] rfl (fun _ => rfl) ?_
  refine P_ld 3 (.int (i32 0)) rfl (fun _ => rfl) ?_
  refine P_sto 4 [(3, .int (i32 0)), (2, .int (i32 0)), (0, .ref 12), (1, .int (i32 v1))] rfl (fun _ => rfl) ?_
  refine P_lv (b := [(0, .ref 12), (1, .int (i32 v1)), (2, .int (i32 0)), (3, .int (i32 0))]) rfl rfl ⟨rfl, rfl, rfl, rfl, trivial⟩ ?_
  refine P_bnd ?_
  refine P_whl (fun bb Q2 H1 H2 s9 j9 hs9 => dh_pr_headerBits_4 w c N D v1 q1 m hm bb Q2 H1 H2 s9 j9 hs9) bb (fun e4 j q5 => ?_) (0, 0) (jk []) ⟨(l32 0 rfl), (l32 0 rfl)⟩
  have q6 := q5
  show PP bb w D pm_29 (30, [(0, .ref 12), (1, .int (i32 (j 1))), (2, .int (i32 e4)), (3, .int (i32 (j 3)))], [], (khp (mO m [] []) c, N), 0, 0) (QS _ (some e4))
  refine P_ld 31 (.int (i32 e4)) rfl (fun _ => rfl) ?_
  exact P_rp1 rfl q6
def kfl_rd_field_82 (v1 : Int) (v2 : Int) (m : mR) : Option (Int × Int × mR) :=
  bnd (kf_tx_advance (mO m [] [(11, upI (m.2 11) (cut ((cut (v1 * 16)) + v2)) (m.1 209)), (12, upI (m.2 12) (cut ((cut (v1 * 16)) + v2)) (m.1 210))])) fun y1 =>
  if y1.1 = 0 then
    bnd (kf_tx_expect 58 y1.2.2) fun y4 =>
    if y4.1 = 0 then
      bnd (kf_tx_within 1 64 y4.2.2) fun y7 =>
      if y7.1 = 0 then
        bnd (kf_tx_expect 59 (mO y7.2.2 [] [(10, upI (y7.2.2.2 10) (cut ((cut (v1 * 16)) + v2)) y7.2.1)])) fun y10 =>
        if y10.1 = 0 then
          some (0, 0, y10.2.2)
        else
          some (y10.1, 0, y10.2.2)
      else
        some (y7.1, 0, y7.2.2)
    else
      some (y4.1, 0, y4.2.2)
  else
    some (y1.1, 0, y1.2.2)
theorem dg_rd_field_82 (w : wX) (c : Nat → Option am_C) (N D : Nat) (bb : Nat) (v1 : Int) (v2 : Int) (q1 : R32 v1) (q2 : R32 v2) (m : mR) (hm : KCn m) (j : Nat → Int) : PP bb w D pm_79 (82, [(0, .ref 178), (1, .int (i32 v1)), (2, .int (i32 v2))], [], (khp m c, N), 0, 0) (QS (FX0 c N) (kfl_rd_field_82 v1 v2 m)) := by
  unfold kfl_rd_field_82
  show PP bb w D pm_79 (82, [(0, .ref 178), (1, .int (i32 v1)), (2, .int (i32 v2))], [], (khp (mO m [] []) c, N), 0, 0) _
  refine P_ld 83 (.int (i32 v1)) rfl (fun _ => rfl) ?_
  refine P_ld 85 (.int (i32 16)) rfl (fun _ => rfl) ?_
  refine P_op 86 (cut (v1 * 16)) _ rfl (fun _ => rfl) o_mul ?_
  refine P_ld 87 (.int (i32 v2)) rfl (fun _ => rfl) ?_
  refine P_op 88 (cut ((cut (v1 * 16)) + v2)) _ rfl (fun _ => rfl) o_add ?_
  refine P_sto 89 [(3, .int (i32 (cut ((cut (v1 * 16)) + v2)))), (0, .ref 178), (1, .int (i32 v1)), (2, .int (i32 v2))] rfl (fun _ => rfl) ?_
  refine P_ld 90 (.ref 178) rfl (fun _ => rfl) ?_
  refine PK_gf 93 (.ref 12) rfl rfl kd_178 rfl rfl rfl ?_
  refine PK_gf 96 (.ref 14) rfl rfl kd_12 rfl rfl rfl ?_
  refine P_ld 97 (.int (i32 (cut ((cut (v1 * 16)) + v2)))) rfl (fun _ => rfl) ?_
  refine P_ld 98 (.ref 178) rfl (fun _ => rfl) ?_
  refine PK_gf 101 (.ref 6) rfl rfl kd_178 rfl rfl rfl ?_
  refine PK_gf 104 (.long (i64 (m.1 209))) rfl rfl kd_6 rfl rfl rfl ?_
  refine PK_last2 (a' := [(11, upI (m.2 11) (cut ((cut (v1 * 16)) + v2)) (m.1 209))]) 105 11 (m.2 11) rfl rfl rfl cut_r rfl rfl ?_
  refine P_ld 106 (.ref 178) rfl (fun _ => rfl) ?_
  refine PK_gf 109 (.ref 12) rfl rfl kd_178 rfl rfl rfl ?_
  refine PK_gf 112 (.ref 15) rfl rfl kd_12 rfl rfl rfl ?_
  refine P_ld 113 (.int (i32 (cut ((cut (v1 * 16)) + v2)))) rfl (fun _ => rfl) ?_
  refine P_ld 114 (.ref 178) rfl (fun _ => rfl) ?_
  refine PK_gf 117 (.ref 6) rfl rfl kd_178 rfl rfl rfl ?_
  refine PK_gf 120 (.long (i64 (m.1 210))) rfl rfl kd_6 rfl rfl rfl ?_
  refine PK_last2 (a' := [(11, upI (m.2 11) (cut ((cut (v1 * 16)) + v2)) (m.1 209)), (12, upI (m.2 12) (cut ((cut (v1 * 16)) + v2)) (m.1 210))]) 121 12 (m.2 12) rfl rfl rfl cut_r rfl rfl ?_
  refine P_ld 122 (.ref 178) rfl (fun _ => rfl) ?_
  refine PK_gf 125 (.ref 6) rfl rfl kd_178 rfl rfl rfl ?_
  refine P_cx0 128 50 [.ref 6] [] rfl (fun _ => rfl) rfl rfl (D_tx_advance w (mO m [] [(11, upI (m.2 11) (cut ((cut (v1 * 16)) + v2)) (m.1 209)), (12, upI (m.2 12) (cut ((cut (v1 * 16)) + v2)) (m.1 210))]) c N D (KCn_mO hm rfl rfl trivial ⟨(kE_ul (KCn_a hm 11) rfl (KCn_l hm 209 rfl)), (kE_ul (KCn_a hm 12) rfl (KCn_l hm 210 rfl)), trivial⟩)) (fun y x hm e => ⟨_, rfl, hm, Or.inr ⟨x, e, rfl⟩⟩) (fun y1 n3 => ?_)
  refine P_ld 129 (.ref 178) rfl (fun _ => rfl) ?_
  refine PK_gf 132 (.ref 6) rfl rfl kd_178 rfl rfl rfl ?_
  refine P_ld 134 (.int (i32 58)) rfl (fun _ => rfl) ?_
  refine P_cx0 137 78 [.ref 6, .int (i32 58)] [] rfl (fun _ => rfl) rfl rfl (D_tx_expect w y1.2.2 c N D n3 58 (l32 58 rfl)) (fun y x hm e => ⟨_, rfl, hm, Or.inr ⟨x, e, rfl⟩⟩) (fun y4 n6 => ?_)
  refine P_ld 138 (.ref 178) rfl (fun _ => rfl) ?_
  refine PK_gf 141 (.ref 12) rfl rfl kd_178 rfl rfl rfl ?_
  refine PK_gf 144 (.ref 13) rfl rfl kd_12 rfl rfl rfl ?_
  refine P_ld 145 (.int (i32 (cut ((cut (v1 * 16)) + v2)))) rfl (fun _ => rfl) ?_
  refine P_ld 146 (.ref 178) rfl (fun _ => rfl) ?_
  refine PK_gf 149 (.ref 6) rfl rfl kd_178 rfl rfl rfl ?_
  refine P_ld 150 (.int (i32 1)) rfl (fun _ => rfl) ?_
  refine P_ld 152 (.int (i32 64)) rfl (fun _ => rfl) ?_
  refine P_cx1 155 81 [.ref 6, .int (i32 1), .int (i32 64)] [.int (i32 (cut ((cut (v1 * 16)) + v2))), .ref 13] rfl (fun _ => rfl) rfl rfl (D_tx_within w y4.2.2 c N D n6 1 64 (l32 1 rfl) (l32 64 rfl)) (fun y x hm e => ⟨_, rfl, hm, Or.inr ⟨x, e, rfl⟩⟩) (fun y7 h8 n9 => ?_)
  refine PK_iast2 (a' := [(10, upI (y7.2.2.2 10) (cut ((cut (v1 * 16)) + v2)) y7.2.1)]) 156 10 (y7.2.2.2 10) rfl rfl rfl cut_r rfl rfl ?_
  refine P_ld 157 (.ref 178) rfl (fun _ => rfl) ?_
  refine PK_gf 160 (.ref 6) rfl rfl kd_178 rfl rfl rfl ?_
  refine P_ld 162 (.int (i32 59)) rfl (fun _ => rfl) ?_
  refine P_cx0 165 78 [.ref 6, .int (i32 59)] [] rfl (fun _ => rfl) rfl rfl (D_tx_expect w (mO y7.2.2 [] [(10, upI (y7.2.2.2 10) (cut ((cut (v1 * 16)) + v2)) y7.2.1)]) c N D (KCn_mO n9 rfl rfl trivial ⟨(kE_ui (KCn_a n9 10) rfl h8), trivial⟩) 59 (l32 59 rfl)) (fun y x hm e => ⟨_, rfl, hm, Or.inr ⟨x, e, rfl⟩⟩) (fun y10 n12 => ?_)
  exact P_rx0 rfl rfl n12
def kfl_rd_field_41 (v1 : Int) (v2 : Int) (m : mR) : Option (Int × Int × mR) :=
  bnd (kf_pr_fieldOf v1 (m.1 209) (m.1 210) m) fun y13 =>
  if y13 = (-1) then
    kfl_rd_field_82 v1 v2 m
  else
    bnd (kf_tx_fail 3 (m.1 207) m) fun y17 =>
    if y17.1 = 0 then
      kfl_rd_field_82 v1 v2 y17.2.2
    else
      some (y17.1, 0, y17.2.2)
theorem dg_rd_field_41 (w : wX) (c : Nat → Option am_C) (N D : Nat) (bb : Nat) (v1 : Int) (v2 : Int) (q1 : R32 v1) (q2 : R32 v2) (m : mR) (hm : KCn m) (j : Nat → Int) : PP bb w D pm_79 (41, [(0, .ref 178), (1, .int (i32 v1)), (2, .int (i32 v2))], [], (khp m c, N), 0, 0) (QS (FX0 c N) (kfl_rd_field_41 v1 v2 m)) := by
  unfold kfl_rd_field_41
  show PP bb w D pm_79 (41, [(0, .ref 178), (1, .int (i32 v1)), (2, .int (i32 v2))], [], (khp (mO m [] []) c, N), 0, 0) _
  refine P_ld 42 (.ref 178) rfl (fun _ => rfl) ?_
  refine PK_gf 45 (.ref 12) rfl rfl kd_178 rfl rfl rfl ?_
  refine P_ld 46 (.int (i32 v1)) rfl (fun _ => rfl) ?_
  refine P_ld 47 (.ref 178) rfl (fun _ => rfl) ?_
  refine PK_gf 50 (.ref 6) rfl rfl kd_178 rfl rfl rfl ?_
  refine PK_gf 53 (.long (i64 (m.1 209))) rfl rfl kd_6 rfl rfl rfl ?_
  refine P_ld 54 (.ref 178) rfl (fun _ => rfl) ?_
  refine PK_gf 57 (.ref 6) rfl rfl kd_178 rfl rfl rfl ?_
  refine PK_gf 60 (.long (i64 (m.1 210))) rfl rfl kd_6 rfl rfl rfl ?_
  refine P_cp1 63 80 [.ref 12, .int (i32 v1), .long (i64 (m.1 209)), .long (i64 (m.1 210))] [] rfl (fun _ => rfl) rfl (D_pr_fieldOf w m c N D hm v1 (m.1 209) (m.1 210) q1 (KCn_l hm 209 rfl) (KCn_l hm 210 rfl)) (fun y13 h14 => ?_)
  refine P_ld 64 (.int (i32 (-1))) rfl (fun _ => rfl) ?_
  refine P_icF 82 67 rfl rfl rfl h14 (l32 (-1) rfl) rfl (fun h16 => ?_) (fun h16 => ?_)
  · skip
    exact dg_rd_field_82 w c N D bb v1 v2 q1 q2 m hm (jk [])
  · skip
    refine P_ld 68 (.ref 178) rfl (fun _ => rfl) ?_
    refine PK_gf 71 (.ref 6) rfl rfl kd_178 rfl rfl rfl ?_
    refine P_ld 72 (.int (i32 3)) rfl (fun _ => rfl) ?_
    refine P_ld 73 (.ref 178) rfl (fun _ => rfl) ?_
    refine PK_gf 76 (.ref 6) rfl rfl kd_178 rfl rfl rfl ?_
    refine PK_gf 79 (.int (i32 (m.1 207))) rfl rfl kd_6 rfl rfl rfl ?_
    refine P_cx0 82 51 [.ref 6, .int (i32 3), .int (i32 (m.1 207))] [] rfl (fun _ => rfl) rfl rfl (D_tx_fail w m c N D hm 3 (m.1 207) (l32 3 rfl) (KCn_i hm 207 rfl)) (fun y x hm e => ⟨_, rfl, hm, Or.inr ⟨x, e, rfl⟩⟩) (fun y17 n19 => ?_)
    exact dg_rd_field_82 w c N D bb v1 v2 q1 q2 y17.2.2 n19 (jk [])
def kfl_rd_field_20 (v1 : Int) (v2 : Int) (m : mR) : Option (Int × Int × mR) :=
  if v2 < 16 then
    kfl_rd_field_41 v1 v2 m
  else
    bnd (kf_tx_fail 4 (m.1 207) m) fun y21 =>
    if y21.1 = 0 then
      kfl_rd_field_41 v1 v2 y21.2.2
    else
      some (y21.1, 0, y21.2.2)
theorem dg_rd_field_20 (w : wX) (c : Nat → Option am_C) (N D : Nat) (bb : Nat) (v1 : Int) (v2 : Int) (q1 : R32 v1) (q2 : R32 v2) (m : mR) (hm : KCn m) (j : Nat → Int) : PP bb w D pm_79 (20, [(0, .ref 178), (1, .int (i32 v1)), (2, .int (i32 v2))], [], (khp m c, N), 0, 0) (QS (FX0 c N) (kfl_rd_field_20 v1 v2 m)) := by
  unfold kfl_rd_field_20
  show PP bb w D pm_79 (20, [(0, .ref 178), (1, .int (i32 v1)), (2, .int (i32 v2))], [], (khp (mO m [] []) c, N), 0, 0) _
  refine P_ld 21 (.int (i32 v2)) rfl (fun _ => rfl) ?_
  refine P_ld 23 (.int (i32 16)) rfl (fun _ => rfl) ?_
  refine P_icF 41 26 rfl rfl rfl q2 (l32 16 rfl) rfl (fun h20 => ?_) (fun h20 => ?_)
  · skip
    exact dg_rd_field_41 w c N D bb v1 v2 q1 q2 m hm (jk [])
  · skip
    refine P_ld 27 (.ref 178) rfl (fun _ => rfl) ?_
    refine PK_gf 30 (.ref 6) rfl rfl kd_178 rfl rfl rfl ?_
    refine P_ld 31 (.int (i32 4)) rfl (fun _ => rfl) ?_
    refine P_ld 32 (.ref 178) rfl (fun _ => rfl) ?_
    refine PK_gf 35 (.ref 6) rfl rfl kd_178 rfl rfl rfl ?_
    refine PK_gf 38 (.int (i32 (m.1 207))) rfl rfl kd_6 rfl rfl rfl ?_
    refine P_cx0 41 51 [.ref 6, .int (i32 4), .int (i32 (m.1 207))] [] rfl (fun _ => rfl) rfl rfl (D_tx_fail w m c N D hm 4 (m.1 207) (l32 4 rfl) (KCn_i hm 207 rfl)) (fun y x hm e => ⟨_, rfl, hm, Or.inr ⟨x, e, rfl⟩⟩) (fun y21 n23 => ?_)
    exact dg_rd_field_41 w c N D bb v1 v2 q1 q2 y21.2.2 n23 (jk [])
def kf_rd_field (v1 : Int) (v2 : Int) (m : mR) : Option (Int × Int × mR) :=
  if m.1 206 = 256 then
    kfl_rd_field_20 v1 v2 m
  else
    bnd (kf_tx_refuse m) fun y25 =>
    if y25.1 = 0 then
      kfl_rd_field_20 v1 v2 y25.2.2
    else
      some (y25.1, 0, y25.2.2)
theorem D_rd_field (w : wX) (m : mR) (c : Nat → Option am_C) (N D : Nat) (hm : KCn m) (v1 : Int) (v2 : Int) (q1 : R32 v1) (q2 : R32 v2) : PC w D 79 [.ref 178, .int (i32 v1), .int (i32 v2)] (khp m c, N) (QS (FX0 c N) (kf_rd_field v1 v2 m)) := by
  refine Pc_of (fun D bb => ?_) D
  unfold kf_rd_field
  show PP bb w D pm_79 (0, [(0, .ref 178), (1, .int (i32 v1)), (2, .int (i32 v2))], [], (khp (mO m [] []) c, N), 0, 0) _
  refine P_ld 1 (.ref 178) rfl (fun _ => rfl) ?_
  refine PK_gf 4 (.ref 6) rfl rfl kd_178 rfl rfl rfl ?_
  refine PK_gf 7 (.int (i32 (m.1 206))) rfl rfl kd_6 rfl rfl rfl ?_
  refine P_ld 10 (.int (i32 256)) rfl (fun _ => rfl) ?_
  refine P_icF 20 13 rfl rfl rfl (KCn_i hm 206 rfl) (l32 256 rfl) rfl (fun h24 => ?_) (fun h24 => ?_)
  · skip
    exact dg_rd_field_20 w c N D bb v1 v2 q1 q2 m hm (jk [])
  · skip
    refine P_ld 14 (.ref 178) rfl (fun _ => rfl) ?_
    refine PK_gf 17 (.ref 6) rfl rfl kd_178 rfl rfl rfl ?_
    refine P_cx0 20 76 [.ref 6] [] rfl (fun _ => rfl) rfl rfl (D_tx_refuse w m c N D hm) (fun y x hm e => ⟨_, rfl, hm, Or.inr ⟨x, e, rfl⟩⟩) (fun y25 n27 => ?_)
    exact dg_rd_field_20 w c N D bb v1 v2 q1 q2 y25.2.2 n27 (jk [])
def cs_rd_header_60 (s : Int × mR) : Prop := R32 s.1 ∧ KCn s.2
def cx_rd_header_60 : (Sum (mR) (Int × mR)) → Prop := (sel (fun (e : mR) => KCn e) (fun (e : Int × mR) => False))
def hd_rd_header_60 (c : Nat → Option am_C) (N : Nat) (v1 : Int) (v2 : Int) (s : Int × mR) (j : Nat → Int) : ag_St af_T := (60, [(0, .ref 178), (1, .int (i32 v1)), (2, .int (i32 v2)), (3, .int (i32 s.1))], [], (khp s.2 c, N), 0, 0)
def ex_rd_header_60 (c : Nat → Option am_C) (N : Nat) (v1 : Int) (v2 : Int) : (Sum (mR) (Int × mR)) → (Nat → Int) → ag_St af_T := (sel (fun (e : mR) (j : Nat → Int) => ((95, [(0, .ref 178), (1, .int (i32 v1)), (2, .int (i32 v2)), (3, .int (i32 (j 3)))], [], (khp e c, N), 0, 0) : ag_St af_T)) (fun (e : Int × mR) (j : Nat → Int) => ((0, [], [], (khp e.2 c, N), 0, 0) : ag_St af_T)))
def tx_rd_header_60 (c : Nat → Option am_C) (N : Nat) : (Sum (mR) (Int × mR)) → ag_Re af_T → Prop := (sel (fun (_ : mR) (_ : ag_Re af_T) => False) (fun (e : Int × mR) (r : ag_Re af_T) => ∃ x : Nat, e.1 = x + 1 ∧ KCn e.2 ∧ r = (.inr x, (khp e.2 c, N), 1, 6)))
def kfl_rd_header_147 (m : mR) : Option (Int × Int × mR) :=
  bnd (kf_tx_advance m) fun y2 =>
  if y2.1 = 0 then
    some (0, 0, y2.2.2)
  else
    some (y2.1, 0, y2.2.2)
theorem dg_rd_header_147 (w : wX) (c : Nat → Option am_C) (N D : Nat) (bb : Nat) (m : mR) (hm : KCn m) (j : Nat → Int) : PP bb w D pm_74 (147, [(0, .ref 178), (1, .int (i32 (j 1))), (2, .int (i32 (j 2))), (3, .int (i32 (j 3)))], [], (khp m c, N), 0, 0) (QS (FX0 c N) (kfl_rd_header_147 m)) := by
  unfold kfl_rd_header_147
  show PP bb w D pm_74 (147, [(0, .ref 178), (1, .int (i32 (j 1))), (2, .int (i32 (j 2))), (3, .int (i32 (j 3)))], [], (khp (mO m [] []) c, N), 0, 0) _
  refine P_ld 148 (.ref 178) rfl (fun _ => rfl) ?_
  refine PK_gf 151 (.ref 6) rfl rfl kd_178 rfl rfl rfl ?_
  refine P_cx0 154 50 [.ref 6] [] rfl (fun _ => rfl) rfl rfl (D_tx_advance w m c N D hm) (fun y x hm e => ⟨_, rfl, hm, Or.inr ⟨x, e, rfl⟩⟩) (fun y2 n4 => ?_)
  exact P_rx0 rfl rfl n4
def kfl_rd_header_137 (v2 : Int) (m : mR) : Option (Int × Int × mR) :=
  bnd (kf_tx_fail 8 v2 m) fun y5 =>
  if y5.1 = 0 then
    kfl_rd_header_147 y5.2.2
  else
    some (y5.1, 0, y5.2.2)
theorem dg_rd_header_137 (w : wX) (c : Nat → Option am_C) (N D : Nat) (bb : Nat) (v2 : Int) (q2 : R32 v2) (m : mR) (hm : KCn m) (j : Nat → Int) : PP bb w D pm_74 (137, [(0, .ref 178), (1, .int (i32 (j 1))), (2, .int (i32 v2)), (3, .int (i32 (j 3)))], [], (khp m c, N), 0, 0) (QS (FX0 c N) (kfl_rd_header_137 v2 m)) := by
  unfold kfl_rd_header_137
  show PP bb w D pm_74 (137, [(0, .ref 178), (1, .int (i32 (j 1))), (2, .int (i32 v2)), (3, .int (i32 (j 3)))], [], (khp (mO m [] []) c, N), 0, 0) _
  refine P_ld 138 (.ref 178) rfl (fun _ => rfl) ?_
  refine PK_gf 141 (.ref 6) rfl rfl kd_178 rfl rfl rfl ?_
  refine P_ld 143 (.int (i32 8)) rfl (fun _ => rfl) ?_
  refine P_ld 144 (.int (i32 v2)) rfl (fun _ => rfl) ?_
  refine P_cx0 147 51 [.ref 6, .int (i32 8), .int (i32 v2)] [] rfl (fun _ => rfl) rfl rfl (D_tx_fail w m c N D hm 8 v2 (l32 8 rfl) q2) (fun y x hm e => ⟨_, rfl, hm, Or.inr ⟨x, e, rfl⟩⟩) (fun y5 n7 => ?_)
  exact dg_rd_header_147 w c N D bb y5.2.2 n7 (jk [(1, j 1), (2, v2), (3, j 3)])
def kfl_rd_header_114 (v1 : Int) (v2 : Int) (m : mR) : Option (Int × Int × mR) :=
  bnd (kf_pr_headerBits v1 m) fun y8 =>
  if y8.tmod 8 = 0 then
    if y8 ≤ 512 then
      kfl_rd_header_147 m
    else
      kfl_rd_header_137 v2 m
  else
    kfl_rd_header_137 v2 m
theorem dg_rd_header_114 (w : wX) (c : Nat → Option am_C) (N D : Nat) (bb : Nat) (v1 : Int) (v2 : Int) (q1 : R32 v1) (q2 : R32 v2) (m : mR) (hm : KCn m) (j : Nat → Int) : PP bb w D pm_74 (114, [(0, .ref 178), (1, .int (i32 v1)), (2, .int (i32 v2)), (3, .int (i32 (j 3)))], [], (khp m c, N), 0, 0) (QS (FX0 c N) (kfl_rd_header_114 v1 v2 m)) := by
  unfold kfl_rd_header_114
  show PP bb w D pm_74 (114, [(0, .ref 178), (1, .int (i32 v1)), (2, .int (i32 v2)), (3, .int (i32 (j 3)))], [], (khp (mO m [] []) c, N), 0, 0) _
  refine P_ld 115 (.ref 178) rfl (fun _ => rfl) ?_
  refine PK_gf 118 (.ref 12) rfl rfl kd_178 rfl rfl rfl ?_
  refine P_ld 119 (.int (i32 v1)) rfl (fun _ => rfl) ?_
  refine P_cp1 122 29 [.ref 12, .int (i32 v1)] [] rfl (fun _ => rfl) rfl (D_pr_headerBits w m c N D hm v1 q1) (fun y8 h9 => ?_)
  refine P_sto 123 [(3, .int (i32 y8)), (0, .ref 178), (1, .int (i32 v1)), (2, .int (i32 v2))] rfl (fun _ => rfl) ?_
  refine P_ld 124 (.int (i32 y8)) rfl (fun _ => rfl) ?_
  refine P_ld 126 (.int (i32 8)) rfl (fun _ => rfl) ?_
  refine P_rem 127 rfl rfl h9 (by decide) (by decide) ?_
  refine P_ifE 137 130 rfl rfl rfl (tmod_r h9 (by decide) (by decide)) rfl (fun h11 => ?_) (fun h11 => ?_)
  · skip
    refine P_ld 131 (.int (i32 y8)) rfl (fun _ => rfl) ?_
    refine P_ld 134 (.int (i32 512)) rfl (fun _ => rfl) ?_
    refine P_icF 147 137 rfl rfl rfl h9 (l32 512 rfl) rfl (fun h12 => ?_) (fun h12 => ?_)
    · skip
      refine P_lv (b := [(0, .ref 178), (1, .int (i32 v1)), (2, .int (i32 v2)), (3, .int (i32 y8))]) rfl rfl ⟨rfl, rfl, rfl, rfl, trivial⟩ ?_
      exact dg_rd_header_147 w c N D bb m hm (jk [(1, v1), (2, v2), (3, y8)])
    · skip
      refine P_lv (b := [(0, .ref 178), (1, .int (i32 v1)), (2, .int (i32 v2)), (3, .int (i32 y8))]) rfl rfl ⟨rfl, rfl, rfl, rfl, trivial⟩ ?_
      exact dg_rd_header_137 w c N D bb v2 q2 m hm (jk [(1, v1), (3, y8)])
  · skip
    refine P_lv (b := [(0, .ref 178), (1, .int (i32 v1)), (2, .int (i32 v2)), (3, .int (i32 y8))]) rfl rfl ⟨rfl, rfl, rfl, rfl, trivial⟩ ?_
    exact dg_rd_header_137 w c N D bb v2 q2 m hm (jk [(1, v1), (3, y8)])
def kfl_rd_header_95 (v1 : Int) (v2 : Int) (m : mR) : Option (Int × Int × mR) :=
  if m.1 206 = 125 then
    kfl_rd_header_114 v1 v2 m
  else
    bnd (kf_tx_refuse m) fun y14 =>
    if y14.1 = 0 then
      kfl_rd_header_114 v1 v2 y14.2.2
    else
      some (y14.1, 0, y14.2.2)
theorem dg_rd_header_95 (w : wX) (c : Nat → Option am_C) (N D : Nat) (bb : Nat) (v1 : Int) (v2 : Int) (q1 : R32 v1) (q2 : R32 v2) (m : mR) (hm : KCn m) (j : Nat → Int) : PP bb w D pm_74 (95, [(0, .ref 178), (1, .int (i32 v1)), (2, .int (i32 v2)), (3, .int (i32 (j 3)))], [], (khp m c, N), 0, 0) (QS (FX0 c N) (kfl_rd_header_95 v1 v2 m)) := by
  unfold kfl_rd_header_95
  show PP bb w D pm_74 (95, [(0, .ref 178), (1, .int (i32 v1)), (2, .int (i32 v2)), (3, .int (i32 (j 3)))], [], (khp (mO m [] []) c, N), 0, 0) _
  refine P_ld 96 (.ref 178) rfl (fun _ => rfl) ?_
  refine PK_gf 99 (.ref 6) rfl rfl kd_178 rfl rfl rfl ?_
  refine PK_gf 102 (.int (i32 (m.1 206))) rfl rfl kd_6 rfl rfl rfl ?_
  refine P_ld 104 (.int (i32 125)) rfl (fun _ => rfl) ?_
  refine P_icF 114 107 rfl rfl rfl (KCn_i hm 206 rfl) (l32 125 rfl) rfl (fun h13 => ?_) (fun h13 => ?_)
  · skip
    exact dg_rd_header_114 w c N D bb v1 v2 q1 q2 m hm (jk [(3, j 3)])
  · skip
    refine P_ld 108 (.ref 178) rfl (fun _ => rfl) ?_
    refine PK_gf 111 (.ref 6) rfl rfl kd_178 rfl rfl rfl ?_
    refine P_cx0 114 76 [.ref 6] [] rfl (fun _ => rfl) rfl rfl (D_tx_refuse w m c N D hm) (fun y x hm e => ⟨_, rfl, hm, Or.inr ⟨x, e, rfl⟩⟩) (fun y14 n16 => ?_)
    exact dg_rd_header_114 w c N D bb v1 v2 q1 q2 y14.2.2 n16 (jk [(3, j 3)])
def kfl_rd_header_83 (v1 : Int) (v2 : Int) (v3 : Int) (m : mR) : Option (Sum (Int × mR) (Sum (mR) (Int × mR))) :=
  bnd (kf_rd_field v1 v3 m) fun y17 =>
  if y17.1 = 0 then
    some (.inl (cut (v3 + 1), y17.2.2))
  else
    some (.inr (.inr (y17.1, y17.2.2)))
theorem dg_rd_header_83 (w : wX) (c : Nat → Option am_C) (N D : Nat) (bb : Nat) (v1 : Int) (v2 : Int) (v3 : Int) (q1 : R32 v1) (q2 : R32 v2) (q3 : R32 v3) (m : mR) (hm : KCn m) (j : Nat → Int) (Q2 : Sum (Int × mR) (Sum (mR) (Int × mR)) → ag_Re af_T → Prop) (H1 : ∀ s j, cs_rd_header_60 s → PP bb w D pm_74 (hd_rd_header_60 c N v1 v2 s j) (Q2 (.inl s))) (H2 : ∀ x j, cx_rd_header_60 x → PP bb w D pm_74 (ex_rd_header_60 c N v1 v2 x j) (Q2 (.inr x))) (H3 : ∀ x r, tx_rd_header_60 c N x r → Q2 (.inr x) r) : PP bb w D pm_74 (83, [(0, .ref 178), (1, .int (i32 v1)), (2, .int (i32 v2)), (3, .int (i32 v3))], [], (khp m c, N), 0, 0) (QS Q2 (kfl_rd_header_83 v1 v2 v3 m)) := by
  unfold kfl_rd_header_83
  show PP bb w D pm_74 (83, [(0, .ref 178), (1, .int (i32 v1)), (2, .int (i32 v2)), (3, .int (i32 v3))], [], (khp (mO m [] []) c, N), 0, 0) _
  refine P_ld 84 (.ref 178) rfl (fun _ => rfl) ?_
  refine P_ld 85 (.int (i32 v1)) rfl (fun _ => rfl) ?_
  refine P_ld 86 (.int (i32 v3)) rfl (fun _ => rfl) ?_
  refine P_cx0 89 79 [.ref 178, .int (i32 v1), .int (i32 v3)] [] rfl (fun _ => rfl) rfl rfl (D_rd_field w m c N D hm v1 v3 q1 q3) (fun y x hm e => ⟨_, rfl, H3 _ _ ⟨x, e, hm, rfl⟩⟩) (fun y17 n19 => ?_)
  refine P_inc 92 [(3, .int (i32 (cut (v3 + 1)))), (0, .ref 178), (1, .int (i32 v1)), (2, .int (i32 v2))] rfl rfl (by decide) rfl rfl ?_
  refine P_goto 60 rfl (fun _ => rfl) ?_
  refine P_some ?_
  refine P_lv (b := [(0, .ref 178), (1, .int (i32 v1)), (2, .int (i32 v2)), (3, .int (i32 (cut (v3 + 1))))]) rfl rfl ⟨rfl, rfl, rfl, rfl, trivial⟩ ?_
  exact H1 (cut (v3 + 1), y17.2.2) (jk []) ⟨cut_r, n19⟩
def kfb_rd_header_60 (v1 : Int) (v2 : Int) (s : Int × mR) : Option (Sum (Int × mR) (Sum (mR) (Int × mR))) :=
  if (16 : Int) < s.1 then
    some (.inr (.inl s.2))
  else
    if s.1 = 0 then
      kfl_rd_header_83 v1 v2 s.1 s.2
    else
      if s.2.1 206 = 256 then
        kfl_rd_header_83 v1 v2 s.1 s.2
      else
        some (.inr (.inl s.2))
theorem dh_rd_header_60 (w : wX) (c : Nat → Option am_C) (N D : Nat) (v1 : Int) (v2 : Int) (q1 : R32 v1) (q2 : R32 v2) (bb : Nat) (Q2 : Sum (Int × mR) (Sum (mR) (Int × mR)) → ag_Re af_T → Prop) (H1 : ∀ s j, cs_rd_header_60 s → PP bb w D pm_74 (hd_rd_header_60 c N v1 v2 s j) (Q2 (.inl s))) (H2 : ∀ x j, cx_rd_header_60 x → PP bb w D pm_74 (ex_rd_header_60 c N v1 v2 x j) (Q2 (.inr x))) (H3 : ∀ x r, tx_rd_header_60 c N x r → Q2 (.inr x) r) (s : Int × mR) (j : Nat → Int) (hs : cs_rd_header_60 s) : PP (bb + 1) w D pm_74 (hd_rd_header_60 c N v1 v2 s j) (QS Q2 (kfb_rd_header_60 v1 v2 s)) := by
  obtain ⟨g3, gm⟩ := hs
  unfold kfb_rd_header_60
  show PP (bb + 1) w D pm_74 (60, [(0, .ref 178), (1, .int (i32 v1)), (2, .int (i32 v2)), (3, .int (i32 s.1))], [], (khp (mO s.2 [] []) c, N), 0, 0) _
  refine P1_ld 61 (.int (i32 s.1)) rfl (fun _ => rfl) ?_
  refine P_ld 63 (.int (i32 16)) rfl (fun _ => rfl) ?_
  refine P_icF 95 66 rfl rfl rfl g3 (l32 16 rfl) rfl (fun h21 => ?_) (fun h21 => ?_)
  · skip
    refine P_some ?_
    exact H2 (.inl s.2) (jk [(3, s.1)]) gm
  · skip
    refine P_ld 67 (.int (i32 s.1)) rfl (fun _ => rfl) ?_
    refine P_ifF 83 70 rfl rfl rfl g3 rfl (fun h22 => ?_) (fun h22 => ?_)
    · skip
      exact dg_rd_header_83 w c N D bb v1 v2 s.1 q1 q2 g3 s.2 gm (jk []) Q2 H1 H2 H3
    · skip
      refine P_ld 71 (.ref 178) rfl (fun _ => rfl) ?_
      refine PK_gf 74 (.ref 6) rfl rfl kd_178 rfl rfl rfl ?_
      refine PK_gf 77 (.int (i32 (s.2.1 206))) rfl rfl kd_6 rfl rfl rfl ?_
      refine P_ld 80 (.int (i32 256)) rfl (fun _ => rfl) ?_
      refine P_icE 95 83 rfl rfl rfl (KCn_i gm 206 rfl) (l32 256 rfl) rfl (fun h23 => ?_) (fun h23 => ?_)
      · skip
        exact dg_rd_header_83 w c N D bb v1 v2 s.1 q1 q2 g3 s.2 gm (jk []) Q2 H1 H2 H3
      · skip
        refine P_some ?_
        exact H2 (.inl s.2) (jk [(3, s.1)]) gm
def kf_rd_header (m : mR) : Option (Int × Int × mR) :=
  bnd (kf_tx_advance m) fun y24 =>
  if y24.1 = 0 then
    bnd (kf_tx_makeNew 300 (y24.2.2.1 214) 12 y24.2.2) fun y27 =>
    if y27.1 = 0 then
      bnd (kf_tx_expect 123 (mO y27.2.2 [(214, cut ((y27.2.2.1 214) + 1))] [])) fun y30 =>
      if y30.1 = 0 then
        bnd (whl (kfb_rd_header_60 (y24.2.2.1 214) (y24.2.2.1 207)) (0, y30.2.2)) (sel
          (fun e33 : mR =>
            kfl_rd_header_95 (y24.2.2.1 214) (y24.2.2.1 207) e33)
          (fun e36 : Int × mR =>
            some (e36.1, 0, e36.2)))
      else
        some (y30.1, 0, y30.2.2)
    else
      some (y27.1, 0, y27.2.2)
  else
    some (y24.1, 0, y24.2.2)
theorem D_rd_header (w : wX) (m : mR) (c : Nat → Option am_C) (N D : Nat) (hm : KCn m) : PC w D 74 [.ref 178] (khp m c, N) (QS (FX0 c N) (kf_rd_header m)) := by
  refine Pc_of (fun D bb => ?_) D
  unfold kf_rd_header
  show PP bb w D pm_74 (0, [(0, .ref 178)], [], (khp (mO m [] []) c, N), 0, 0) _
  refine P_ld 1 (.ref 178) rfl (fun _ => rfl) ?_
  refine PK_gf 4 (.ref 6) rfl rfl kd_178 rfl rfl rfl ?_
  refine P_cx0 7 50 [.ref 6] [] rfl (fun _ => rfl) rfl rfl (D_tx_advance w m c N D hm) (fun y x hm e => ⟨_, rfl, hm, Or.inr ⟨x, e, rfl⟩⟩) (fun y24 n26 => ?_)
  refine P_ld 8 (.ref 178) rfl (fun _ => rfl) ?_
  refine PK_gf 11 (.ref 12) rfl rfl kd_178 rfl rfl rfl ?_
  refine PK_gf 14 (.int (i32 (y24.2.2.1 214))) rfl rfl kd_12 rfl rfl rfl ?_
  refine P_sto 15 [(1, .int (i32 (y24.2.2.1 214))), (0, .ref 178)] rfl (fun _ => rfl) ?_
  refine P_ld 16 (.ref 178) rfl (fun _ => rfl) ?_
  refine PK_gf 19 (.ref 6) rfl rfl kd_178 rfl rfl rfl ?_
  refine PK_gf 22 (.int (i32 (y24.2.2.1 207))) rfl rfl kd_6 rfl rfl rfl ?_
  refine P_sto 23 [(2, .int (i32 (y24.2.2.1 207))), (1, .int (i32 (y24.2.2.1 214))), (0, .ref 178)] rfl (fun _ => rfl) ?_
  refine P_ld 24 (.ref 178) rfl (fun _ => rfl) ?_
  refine PK_gf 27 (.ref 6) rfl rfl kd_178 rfl rfl rfl ?_
  refine P_ld 30 (.int (i32 300)) rfl (fun _ => rfl) ?_
  refine P_ld 31 (.int (i32 (y24.2.2.1 214))) rfl (fun _ => rfl) ?_
  refine P_ld 33 (.int (i32 12)) rfl (fun _ => rfl) ?_
  refine P_cx0 36 75 [.ref 6, .int (i32 300), .int (i32 (y24.2.2.1 214)), .int (i32 12)] [] rfl (fun _ => rfl) rfl rfl (D_tx_makeNew w y24.2.2 c N D n26 300 (y24.2.2.1 214) 12 (l32 300 rfl) (KCn_i n26 214 rfl) (l32 12 rfl)) (fun y x hm e => ⟨_, rfl, hm, Or.inr ⟨x, e, rfl⟩⟩) (fun y27 n29 => ?_)
  refine P_ld 37 (.ref 178) rfl (fun _ => rfl) ?_
  refine PK_gf 40 (.ref 12) rfl rfl kd_178 rfl rfl rfl ?_
  refine P_ld 41 (.ref 12) rfl (fun _ => rfl) ?_
  refine PK_gf 44 (.int (i32 (y27.2.2.1 214))) rfl rfl kd_12 rfl rfl rfl ?_
  refine P_ld 45 (.int (i32 1)) rfl (fun _ => rfl) ?_
  refine P_op 46 (cut ((y27.2.2.1 214) + 1)) _ rfl (fun _ => rfl) o_add ?_
  refine PK_pf (l' := [(214, cut ((y27.2.2.1 214) + 1))]) 49 (cut ((y27.2.2.1 214) + 1)) rfl rfl kd_12 rfl rfl rfl rfl rfl rfl rfl ?_
  refine P_ld 50 (.ref 178) rfl (fun _ => rfl) ?_
  refine PK_gf 53 (.ref 6) rfl rfl kd_178 rfl rfl rfl ?_
  refine P_ld 55 (.int (i32 123)) rfl (fun _ => rfl) ?_
  refine P_cx0 58 78 [.ref 6, .int (i32 123)] [] rfl (fun _ => rfl) rfl rfl (D_tx_expect w (mO y27.2.2 [(214, cut ((y27.2.2.1 214) + 1))] []) c N D (KCn_mO n29 rfl rfl ⟨(kV_i rfl cut_r), trivial⟩ trivial) 123 (l32 123 rfl)) (fun y x hm e => ⟨_, rfl, hm, Or.inr ⟨x, e, rfl⟩⟩) (fun y30 n32 => ?_)
  refine P_ld 59 (.int (i32 0)) rfl (fun _ => rfl) ?_
  refine P_sto 60 [(3, .int (i32 0)), (2, .int (i32 (y24.2.2.1 207))), (1, .int (i32 (y24.2.2.1 214))), (0, .ref 178)] rfl (fun _ => rfl) ?_
  refine P_lv (b := [(0, .ref 178), (1, .int (i32 (y24.2.2.1 214))), (2, .int (i32 (y24.2.2.1 207))), (3, .int (i32 0))]) rfl rfl ⟨rfl, rfl, rfl, rfl, trivial⟩ ?_
  refine P_bnd ?_
  refine P_whlx (TX := tx_rd_header_60 c N) (fun bb Q2 H1 H2 H3 s9 j9 hs9 => dh_rd_header_60 w c N D (y24.2.2.1 214) (y24.2.2.1 207) (KCn_i n26 214 rfl) (KCn_i n26 207 rfl) bb Q2 H1 H2 H3 s9 j9 hs9) bb (fun x r hr => ?_) (fun x0 j hx0 => ?_) (0, y30.2.2) (jk []) ⟨(l32 0 rfl), n32⟩
  · skip
    cases x with
    | inl e => exact False.elim hr
    | inr x =>
      obtain ⟨x9, e9, k9, rfl⟩ := hr
      exact ⟨_, rfl, k9, Or.inr ⟨x9, e9, rfl⟩⟩
  cases x0 with
  | inl e33 =>
    have q34 := hx0
    have q35 := q34
    show PP bb w D pm_74 (95, [(0, .ref 178), (1, .int (i32 (y24.2.2.1 214))), (2, .int (i32 (y24.2.2.1 207))), (3, .int (i32 (j 3)))], [], (khp (mO e33 [] []) c, N), 0, 0) (QS _ (kfl_rd_header_95 (y24.2.2.1 214) (y24.2.2.1 207) e33))
    exact dg_rd_header_95 w c N D bb (y24.2.2.1 214) (y24.2.2.1 207) (KCn_i n26 214 rfl) (KCn_i n26 207 rfl) e33 q35 (jk [(3, j 3)])
  | inr e36 =>
    have q37 := hx0
    have q37 := q37
    exact False.elim q37
end X28O
