noncomputable section X28I
def cs_fm_goesOn_2 (s : Int × mR) : Prop := R32 s.1 ∧ KCn s.2
def cx_fm_goesOn_2 : (Sum (mR) (Int × mR)) → Prop := (sel (fun (e : mR) => KCn e) (fun (e : Int × mR) => False))
def hd_fm_goesOn_2 (c : Nat → Option am_C) (N : Nat) (s : Int × mR) (j : Nat → Int) : ag_St af_T := (2, [(0, .ref 181), (1, .int (i32 s.1))], [], (khp s.2 c, N), 0, 0)
def ex_fm_goesOn_2 (c : Nat → Option am_C) (N : Nat) : (Sum (mR) (Int × mR)) → (Nat → Int) → ag_St af_T := (sel (fun (e : mR) (j : Nat → Int) => ((29, [(0, .ref 181), (1, .int (i32 (j 1)))], [], (khp e c, N), 0, 0) : ag_St af_T)) (fun (e : Int × mR) (j : Nat → Int) => ((0, [], [], (khp e.2 c, N), 0, 0) : ag_St af_T)))
def tx_fm_goesOn_2 (c : Nat → Option am_C) (N : Nat) : (Sum (mR) (Int × mR)) → ag_Re af_T → Prop := (sel (fun (_ : mR) (_ : ag_Re af_T) => False) (fun (e : Int × mR) (r : ag_Re af_T) => ∃ x : Nat, e.1 = x + 1 ∧ KCn e.2 ∧ r = (.inr x, (khp e.2 c, N), 1, 6)))
def cs_fm_goesOn_63 (s : Int × mR) : Prop := R32 s.1 ∧ KCn s.2
def cx_fm_goesOn_63 : (Sum (mR) (Int × mR)) → Prop := (sel (fun (e : mR) => KCn e) (fun (e : Int × mR) => False))
def hd_fm_goesOn_63 (c : Nat → Option am_C) (N : Nat) (v1 : Int) (v2 : Int) (s : Int × mR) (j : Nat → Int) : ag_St af_T := (63, [(0, .ref 181), (1, .int (i32 v1)), (2, .int (i32 v2)), (3, .int (i32 s.1))], [], (khp s.2 c, N), 0, 0)
def ex_fm_goesOn_63 (c : Nat → Option am_C) (N : Nat) (v1 : Int) (v2 : Int) : (Sum (mR) (Int × mR)) → (Nat → Int) → ag_St af_T := (sel (fun (e : mR) (j : Nat → Int) => ((91, [(0, .ref 181), (1, .int (i32 v1)), (2, .int (i32 (j 2))), (3, .int (i32 (j 3)))], [], (khp e c, N), 0, 0) : ag_St af_T)) (fun (e : Int × mR) (j : Nat → Int) => ((0, [], [], (khp e.2 c, N), 0, 0) : ag_St af_T)))
def tx_fm_goesOn_63 (c : Nat → Option am_C) (N : Nat) : (Sum (mR) (Int × mR)) → ag_Re af_T → Prop := (sel (fun (_ : mR) (_ : ag_Re af_T) => False) (fun (e : Int × mR) (r : ag_Re af_T) => ∃ x : Nat, e.1 = x + 1 ∧ KCn e.2 ∧ r = (.inr x, (khp e.2 c, N), 1, 6)))
def cs_fm_goesOn_126 (s : Int × mR) : Prop := R32 s.1 ∧ KCn s.2
def cx_fm_goesOn_126 : (Sum (mR) (Int × mR)) → Prop := (sel (fun (e : mR) => KCn e) (fun (e : Int × mR) => False))
def hd_fm_goesOn_126 (c : Nat → Option am_C) (N : Nat) (s : Int × mR) (j : Nat → Int) : ag_St af_T := (126, [(0, .ref 181), (1, .int (i32 (j 1))), (2, .int (i32 (j 2))), (3, .int (i32 s.1))], [], (khp s.2 c, N), 0, 0)
def ex_fm_goesOn_126 (c : Nat → Option am_C) (N : Nat) : (Sum (mR) (Int × mR)) → (Nat → Int) → ag_St af_T := (sel (fun (e : mR) (j : Nat → Int) => ((153, [(0, .ref 181), (1, .int (i32 (j 1))), (2, .int (i32 (j 2))), (3, .int (i32 (j 3)))], [], (khp e c, N), 0, 0) : ag_St af_T)) (fun (e : Int × mR) (j : Nat → Int) => ((0, [], [], (khp e.2 c, N), 0, 0) : ag_St af_T)))
def tx_fm_goesOn_126 (c : Nat → Option am_C) (N : Nat) : (Sum (mR) (Int × mR)) → ag_Re af_T → Prop := (sel (fun (_ : mR) (_ : ag_Re af_T) => False) (fun (e : Int × mR) (r : ag_Re af_T) => ∃ x : Nat, e.1 = x + 1 ∧ KCn e.2 ∧ r = (.inr x, (khp e.2 c, N), 1, 6)))
def cs_fm_goesOn_221 (s : Int × mR) : Prop := R32 s.1 ∧ KCn s.2
def cx_fm_goesOn_221 : (Sum (mR) (Int × mR)) → Prop := (sel (fun (e : mR) => KCn e) (fun (e : Int × mR) => False))
def hd_fm_goesOn_221 (c : Nat → Option am_C) (N : Nat) (s : Int × mR) (j : Nat → Int) : ag_St af_T := (221, [(0, .ref 181), (1, .int (i32 (j 1))), (2, .int (i32 (j 2))), (3, .int (i32 s.1))], [], (khp s.2 c, N), 0, 0)
def ex_fm_goesOn_221 (c : Nat → Option am_C) (N : Nat) : (Sum (mR) (Int × mR)) → (Nat → Int) → ag_St af_T := (sel (fun (e : mR) (j : Nat → Int) => ((247, [(0, .ref 181), (1, .int (i32 (j 1))), (2, .int (i32 (j 2))), (3, .int (i32 (j 3)))], [], (khp e c, N), 0, 0) : ag_St af_T)) (fun (e : Int × mR) (j : Nat → Int) => ((0, [], [], (khp e.2 c, N), 0, 0) : ag_St af_T)))
def tx_fm_goesOn_221 (c : Nat → Option am_C) (N : Nat) : (Sum (mR) (Int × mR)) → ag_Re af_T → Prop := (sel (fun (_ : mR) (_ : ag_Re af_T) => False) (fun (e : Int × mR) (r : ag_Re af_T) => ∃ x : Nat, e.1 = x + 1 ∧ KCn e.2 ∧ r = (.inr x, (khp e.2 c, N), 1, 6)))
def kfl_fm_goesOn_262 (u0 : Int) (m : mR) : Option (Int × Int × mR) :=
  some (0, u0, m)
theorem dg_fm_goesOn_262 (w : wX) (c : Nat → Option am_C) (N D : Nat) (bb : Nat) (u0 : Int) (r0 : R32 u0) (m : mR) (hm : KCn m) (j : Nat → Int) : PP bb w D pm_103 (262, [(0, .ref 181), (1, .int (i32 (j 1))), (2, .int (i32 (j 2))), (3, .int (i32 (j 3)))], [.int (i32 u0)], (khp m c, N), 0, 0) (QS (FX1 c N) (kfl_fm_goesOn_262 u0 m)) := by
  unfold kfl_fm_goesOn_262
  show PP bb w D pm_103 (262, [(0, .ref 181), (1, .int (i32 (j 1))), (2, .int (i32 (j 2))), (3, .int (i32 (j 3)))], [.int (i32 u0)], (khp (mO m [] []) c, N), 0, 0) _
  exact P_rx1 rfl r0 hm
def kfl_fm_goesOn_247 (m : mR) : Option (Int × Int × mR) :=
  if m.1 228 = 0 then
    kfl_fm_goesOn_262 0 m
  else
    bnd (kf_fm_closeBracket m) fun y6 =>
    if y6.1 = 0 then
      kfl_fm_goesOn_262 y6.2.1 y6.2.2
    else
      some (y6.1, 0, y6.2.2)
theorem dg_fm_goesOn_247 (w : wX) (c : Nat → Option am_C) (N D : Nat) (bb : Nat) (m : mR) (hm : KCn m) (j : Nat → Int) : PP bb w D pm_103 (247, [(0, .ref 181), (1, .int (i32 (j 1))), (2, .int (i32 (j 2))), (3, .int (i32 (j 3)))], [], (khp m c, N), 0, 0) (QS (FX1 c N) (kfl_fm_goesOn_247 m)) := by
  unfold kfl_fm_goesOn_247
  show PP bb w D pm_103 (247, [(0, .ref 181), (1, .int (i32 (j 1))), (2, .int (i32 (j 2))), (3, .int (i32 (j 3)))], [], (khp (mO m [] []) c, N), 0, 0) _
  refine P_ld 248 (.ref 181) rfl (fun _ => rfl) ?_
  refine PK_gf 251 (.int (i32 (m.1 228))) rfl rfl kd_181 rfl rfl rfl ?_
  refine P_ifE 258 254 rfl rfl rfl (KCn_i hm 228 rfl) rfl (fun h5 => ?_) (fun h5 => ?_)
  · skip
    refine P_ld 255 (.int (i32 0)) rfl (fun _ => rfl) ?_
    refine P_goto 262 rfl (fun _ => rfl) ?_
    exact dg_fm_goesOn_262 w c N D bb 0 (l32 0 rfl) m hm (jk [(1, j 1), (2, j 2), (3, j 3)])
  · skip
    refine P_ld 259 (.ref 181) rfl (fun _ => rfl) ?_
    refine P_cx1 262 113 [.ref 181] [] rfl (fun _ => rfl) rfl rfl (D_fm_closeBracket w m c N D hm) (fun y x hm e => ⟨_, rfl, hm, Or.inr ⟨x, e, rfl⟩⟩) (fun y6 h7 n8 => ?_)
    exact dg_fm_goesOn_262 w c N D bb y6.2.1 h7 y6.2.2 n8 (jk [(1, j 1), (2, j 2), (3, j 3)])
def kfb_fm_goesOn_221 (s : Int × mR) : Option (Sum (Int × mR) (Sum (mR) (Int × mR))) :=
  if (288 : Int) ≤ s.1 then
    some (.inr (.inl s.2))
  else
    bnd (kf_fm_top s.2) fun y11 =>
    if y11 = 58 then
      bnd (kf_fm_closeChoice s.2) fun y15 =>
      if y15.1 = 0 then
        some (.inl (cut (s.1 + 1), y15.2.2))
      else
        some (.inr (.inr (y15.1, y15.2.2)))
    else
      some (.inr (.inl s.2))
theorem dh_fm_goesOn_221 (w : wX) (c : Nat → Option am_C) (N D : Nat) (bb : Nat) (Q2 : Sum (Int × mR) (Sum (mR) (Int × mR)) → ag_Re af_T → Prop) (H1 : ∀ s j, cs_fm_goesOn_221 s → PP bb w D pm_103 (hd_fm_goesOn_221 c N s j) (Q2 (.inl s))) (H2 : ∀ x j, cx_fm_goesOn_221 x → PP bb w D pm_103 (ex_fm_goesOn_221 c N x j) (Q2 (.inr x))) (H3 : ∀ x r, tx_fm_goesOn_221 c N x r → Q2 (.inr x) r) (s : Int × mR) (j : Nat → Int) (hs : cs_fm_goesOn_221 s) : PP (bb + 1) w D pm_103 (hd_fm_goesOn_221 c N s j) (QS Q2 (kfb_fm_goesOn_221 s)) := by
  obtain ⟨g3, gm⟩ := hs
  unfold kfb_fm_goesOn_221
  show PP (bb + 1) w D pm_103 (221, [(0, .ref 181), (1, .int (i32 (j 1))), (2, .int (i32 (j 2))), (3, .int (i32 s.1))], [], (khp (mO s.2 [] []) c, N), 0, 0) _
  refine P1_ld 222 (.int (i32 s.1)) rfl (fun _ => rfl) ?_
  refine P_ld 225 (.int (i32 288)) rfl (fun _ => rfl) ?_
  refine P_icF 247 228 rfl rfl rfl g3 (l32 288 rfl) rfl (fun h10 => ?_) (fun h10 => ?_)
  · skip
    refine P_some ?_
    exact H2 (.inl s.2) (jk [(1, j 1), (2, j 2), (3, s.1)]) gm
  · skip
    refine P_ld 229 (.ref 181) rfl (fun _ => rfl) ?_
    refine P_cp1 232 104 [.ref 181] [] rfl (fun _ => rfl) rfl (D_fm_top w s.2 c N D gm) (fun y11 h12 => ?_)
    refine P_ld 234 (.int (i32 58)) rfl (fun _ => rfl) ?_
    refine P_icE 247 237 rfl rfl rfl h12 (l32 58 rfl) rfl (fun h14 => ?_) (fun h14 => ?_)
    · skip
      refine P_ld 238 (.ref 181) rfl (fun _ => rfl) ?_
      refine P_cx0 241 112 [.ref 181] [] rfl (fun _ => rfl) rfl rfl (D_fm_closeChoice w s.2 c N D gm) (fun y x hm e => ⟨_, rfl, H3 _ _ ⟨x, e, hm, rfl⟩⟩) (fun y15 n17 => ?_)
      refine P_inc 244 [(3, .int (i32 (cut (s.1 + 1)))), (0, .ref 181), (1, .int (i32 (j 1))), (2, .int (i32 (j 2)))] rfl rfl (by decide) rfl rfl ?_
      refine P_goto 221 rfl (fun _ => rfl) ?_
      refine P_some ?_
      refine P_lv (b := [(0, .ref 181), (1, .int (i32 (j 1))), (2, .int (i32 (j 2))), (3, .int (i32 (cut (s.1 + 1))))]) rfl rfl ⟨rfl, rfl, rfl, rfl, trivial⟩ ?_
      exact H1 (cut (s.1 + 1), y15.2.2) (jk [(1, j 1), (2, j 2)]) ⟨cut_r, n17⟩
    · skip
      refine P_some ?_
      exact H2 (.inl s.2) (jk [(1, j 1), (2, j 2), (3, s.1)]) gm
def kfl_fm_goesOn_182 (m : mR) : Option (Int × Int × mR) :=
  bnd (kf_fm_top m) fun y18 =>
  if y18 = 63 then
    bnd (kf_tx_expect 58 m) fun y27 =>
    if y27.1 = 0 then
      bnd (kf_fm_deepen (mO y27.2.2 [] [(68, upI (y27.2.2.2 68) (cut ((y27.2.2.1 228) - 1)) 58)])) fun y30 =>
      if y30.1 = 0 then
        some (0, 1, y30.2.2)
      else
        some (y30.1, 0, y30.2.2)
    else
      some (y27.1, 0, y27.2.2)
  else
    bnd (whl kfb_fm_goesOn_221 (0, m)) (sel
      (fun e22 : mR =>
        kfl_fm_goesOn_247 e22)
      (fun e25 : Int × mR =>
        some (e25.1, 0, e25.2)))
theorem dg_fm_goesOn_182 (w : wX) (c : Nat → Option am_C) (N D : Nat) (bb : Nat) (m : mR) (hm : KCn m) (j : Nat → Int) : PP bb w D pm_103 (182, [(0, .ref 181), (1, .int (i32 (j 1))), (2, .int (i32 (j 2))), (3, .int (i32 (j 3)))], [], (khp m c, N), 0, 0) (QS (FX1 c N) (kfl_fm_goesOn_182 m)) := by
  unfold kfl_fm_goesOn_182
  show PP bb w D pm_103 (182, [(0, .ref 181), (1, .int (i32 (j 1))), (2, .int (i32 (j 2))), (3, .int (i32 (j 3)))], [], (khp (mO m [] []) c, N), 0, 0) _
  refine P_ld 183 (.ref 181) rfl (fun _ => rfl) ?_
  refine P_cp1 186 104 [.ref 181] [] rfl (fun _ => rfl) rfl (D_fm_top w m c N D hm) (fun y18 h19 => ?_)
  refine P_ld 188 (.int (i32 63)) rfl (fun _ => rfl) ?_
  refine P_icE 219 191 rfl rfl rfl h19 (l32 63 rfl) rfl (fun h21 => ?_) (fun h21 => ?_)
  · skip
    refine P_ld 192 (.ref 181) rfl (fun _ => rfl) ?_
    refine PK_gf 195 (.ref 6) rfl rfl kd_181 rfl rfl rfl ?_
    refine P_ld 197 (.int (i32 58)) rfl (fun _ => rfl) ?_
    refine P_cx0 200 78 [.ref 6, .int (i32 58)] [] rfl (fun _ => rfl) rfl rfl (D_tx_expect w m c N D hm 58 (l32 58 rfl)) (fun y x hm e => ⟨_, rfl, hm, Or.inr ⟨x, e, rfl⟩⟩) (fun y27 n29 => ?_)
    refine P_ld 201 (.ref 181) rfl (fun _ => rfl) ?_
    refine PK_gf 204 (.ref 182) rfl rfl kd_181 rfl rfl rfl ?_
    refine P_ld 205 (.ref 181) rfl (fun _ => rfl) ?_
    refine PK_gf 208 (.int (i32 (y27.2.2.1 228))) rfl rfl kd_181 rfl rfl rfl ?_
    refine P_ld 209 (.int (i32 1)) rfl (fun _ => rfl) ?_
    refine P_op 210 (cut ((y27.2.2.1 228) - 1)) _ rfl (fun _ => rfl) o_sub ?_
    refine P_ld 212 (.int (i32 58)) rfl (fun _ => rfl) ?_
    refine PK_iast2 (a' := [(68, upI (y27.2.2.2 68) (cut ((y27.2.2.1 228) - 1)) 58)]) 213 68 (y27.2.2.2 68) rfl rfl rfl cut_r rfl rfl ?_
    refine P_ld 214 (.ref 181) rfl (fun _ => rfl) ?_
    refine P_cx0 217 95 [.ref 181] [] rfl (fun _ => rfl) rfl rfl (D_fm_deepen w (mO y27.2.2 [] [(68, upI (y27.2.2.2 68) (cut ((y27.2.2.1 228) - 1)) 58)]) c N D (KCn_mO n29 rfl rfl trivial ⟨(kE_ui (KCn_a n29 68) rfl (l32 58 rfl)), trivial⟩)) (fun y x hm e => ⟨_, rfl, hm, Or.inr ⟨x, e, rfl⟩⟩) (fun y30 n32 => ?_)
    refine P_ld 218 (.int (i32 1)) rfl (fun _ => rfl) ?_
    exact P_rx1 rfl (l32 1 rfl) n32
  · skip
    refine P_ld 220 (.int (i32 0)) rfl (fun _ => rfl) ?_
    refine P_sto 221 [(3, .int (i32 0)), (0, .ref 181), (1, .int (i32 (j 1))), (2, .int (i32 (j 2)))] rfl (fun _ => rfl) ?_
    refine P_lv (b := [(0, .ref 181), (1, .int (i32 (j 1))), (2, .int (i32 (j 2))), (3, .int (i32 0))]) rfl rfl ⟨rfl, rfl, rfl, rfl, trivial⟩ ?_
    refine P_bnd ?_
    refine P_whlx (TX := tx_fm_goesOn_221 c N) (fun bb Q2 H1 H2 H3 s9 j9 hs9 => dh_fm_goesOn_221 w c N D bb Q2 H1 H2 H3 s9 j9 hs9) bb (fun x r hr => ?_) (fun x0 j hx0 => ?_) (0, m) (jk [(1, j 1), (2, j 2)]) ⟨(l32 0 rfl), hm⟩
    · skip
      cases x with
      | inl e => exact False.elim hr
      | inr x =>
        obtain ⟨x9, e9, k9, rfl⟩ := hr
        exact ⟨_, rfl, k9, Or.inr ⟨x9, e9, rfl⟩⟩
    cases x0 with
    | inl e22 =>
      have q23 := hx0
      have q24 := q23
      show PP bb w D pm_103 (247, [(0, .ref 181), (1, .int (i32 (j 1))), (2, .int (i32 (j 2))), (3, .int (i32 (j 3)))], [], (khp (mO e22 [] []) c, N), 0, 0) (QS _ (kfl_fm_goesOn_247 e22))
      exact dg_fm_goesOn_247 w c N D bb e22 q24 (jk [(1, j 1), (2, j 2), (3, j 3)])
    | inr e25 =>
      have q26 := hx0
      have q26 := q26
      exact False.elim q26
def kfl_fm_goesOn_153 (m : mR) : Option (Int × Int × mR) :=
  if m.1 206 = 63 then
    bnd (kf_fm_top m) fun y34 =>
    if y34 = 63 then
      kfl_fm_goesOn_182 m
    else
      bnd (kf_fm_open 63 m) fun y38 =>
      if y38.1 = 0 then
        some (0, 1, y38.2.2)
      else
        some (y38.1, 0, y38.2.2)
  else
    kfl_fm_goesOn_182 m
theorem dg_fm_goesOn_153 (w : wX) (c : Nat → Option am_C) (N D : Nat) (bb : Nat) (m : mR) (hm : KCn m) (j : Nat → Int) : PP bb w D pm_103 (153, [(0, .ref 181), (1, .int (i32 (j 1))), (2, .int (i32 (j 2))), (3, .int (i32 (j 3)))], [], (khp m c, N), 0, 0) (QS (FX1 c N) (kfl_fm_goesOn_153 m)) := by
  unfold kfl_fm_goesOn_153
  show PP bb w D pm_103 (153, [(0, .ref 181), (1, .int (i32 (j 1))), (2, .int (i32 (j 2))), (3, .int (i32 (j 3)))], [], (khp (mO m [] []) c, N), 0, 0) _
  refine P_ld 154 (.ref 181) rfl (fun _ => rfl) ?_
  refine PK_gf 157 (.ref 6) rfl rfl kd_181 rfl rfl rfl ?_
  refine PK_gf 160 (.int (i32 (m.1 206))) rfl rfl kd_6 rfl rfl rfl ?_
  refine P_ld 162 (.int (i32 63)) rfl (fun _ => rfl) ?_
  refine P_icE 182 165 rfl rfl rfl (KCn_i hm 206 rfl) (l32 63 rfl) rfl (fun h33 => ?_) (fun h33 => ?_)
  · skip
    refine P_ld 166 (.ref 181) rfl (fun _ => rfl) ?_
    refine P_cp1 169 104 [.ref 181] [] rfl (fun _ => rfl) rfl (D_fm_top w m c N D hm) (fun y34 h35 => ?_)
    refine P_ld 171 (.int (i32 63)) rfl (fun _ => rfl) ?_
    refine P_icF 182 174 rfl rfl rfl h35 (l32 63 rfl) rfl (fun h37 => ?_) (fun h37 => ?_)
    · skip
      exact dg_fm_goesOn_182 w c N D bb m hm (jk [(1, j 1), (2, j 2), (3, j 3)])
    · skip
      refine P_ld 175 (.ref 181) rfl (fun _ => rfl) ?_
      refine P_ld 177 (.int (i32 63)) rfl (fun _ => rfl) ?_
      refine P_cx0 180 94 [.ref 181, .int (i32 63)] [] rfl (fun _ => rfl) rfl rfl (D_fm_open w m c N D hm 63 (l32 63 rfl)) (fun y x hm e => ⟨_, rfl, hm, Or.inr ⟨x, e, rfl⟩⟩) (fun y38 n40 => ?_)
      refine P_ld 181 (.int (i32 1)) rfl (fun _ => rfl) ?_
      exact P_rx1 rfl (l32 1 rfl) n40
  · skip
    exact dg_fm_goesOn_182 w c N D bb m hm (jk [(1, j 1), (2, j 2), (3, j 3)])
def kfb_fm_goesOn_126 (s : Int × mR) : Option (Sum (Int × mR) (Sum (mR) (Int × mR))) :=
  if (288 : Int) ≤ s.1 then
    some (.inr (.inl s.2))
  else
    bnd (kf_fm_top s.2) fun y43 =>
    bnd (kf_fm_levelOf y43 s.2) fun y46 =>
    if y46 ≤ 0 then
      some (.inr (.inl s.2))
    else
      bnd (kf_fm_closePair s.2) fun y50 =>
      if y50.1 = 0 then
        some (.inl (cut (s.1 + 1), y50.2.2))
      else
        some (.inr (.inr (y50.1, y50.2.2)))
theorem dh_fm_goesOn_126 (w : wX) (c : Nat → Option am_C) (N D : Nat) (bb : Nat) (Q2 : Sum (Int × mR) (Sum (mR) (Int × mR)) → ag_Re af_T → Prop) (H1 : ∀ s j, cs_fm_goesOn_126 s → PP bb w D pm_103 (hd_fm_goesOn_126 c N s j) (Q2 (.inl s))) (H2 : ∀ x j, cx_fm_goesOn_126 x → PP bb w D pm_103 (ex_fm_goesOn_126 c N x j) (Q2 (.inr x))) (H3 : ∀ x r, tx_fm_goesOn_126 c N x r → Q2 (.inr x) r) (s : Int × mR) (j : Nat → Int) (hs : cs_fm_goesOn_126 s) : PP (bb + 1) w D pm_103 (hd_fm_goesOn_126 c N s j) (QS Q2 (kfb_fm_goesOn_126 s)) := by
  obtain ⟨g3, gm⟩ := hs
  unfold kfb_fm_goesOn_126
  show PP (bb + 1) w D pm_103 (126, [(0, .ref 181), (1, .int (i32 (j 1))), (2, .int (i32 (j 2))), (3, .int (i32 s.1))], [], (khp (mO s.2 [] []) c, N), 0, 0) _
  refine P1_ld 127 (.int (i32 s.1)) rfl (fun _ => rfl) ?_
  refine P_ld 130 (.int (i32 288)) rfl (fun _ => rfl) ?_
  refine P_icF 153 133 rfl rfl rfl g3 (l32 288 rfl) rfl (fun h42 => ?_) (fun h42 => ?_)
  · skip
    refine P_some ?_
    exact H2 (.inl s.2) (jk [(1, j 1), (2, j 2), (3, s.1)]) gm
  · skip
    refine P_ld 134 (.ref 181) rfl (fun _ => rfl) ?_
    refine P_cp1 137 104 [.ref 181] [] rfl (fun _ => rfl) rfl (D_fm_top w s.2 c N D gm) (fun y43 h44 => ?_)
    refine P_cp1 140 108 [.int (i32 y43)] [] rfl (fun _ => rfl) rfl (D_fm_levelOf w s.2 c N D gm y43 h44) (fun y46 h47 => ?_)
    refine P_ifF 153 143 rfl rfl rfl h47 rfl (fun h49 => ?_) (fun h49 => ?_)
    · skip
      refine P_some ?_
      exact H2 (.inl s.2) (jk [(1, j 1), (2, j 2), (3, s.1)]) gm
    · skip
      refine P_ld 144 (.ref 181) rfl (fun _ => rfl) ?_
      refine P_cx0 147 109 [.ref 181] [] rfl (fun _ => rfl) rfl rfl (D_fm_closePair w s.2 c N D gm) (fun y x hm e => ⟨_, rfl, H3 _ _ ⟨x, e, hm, rfl⟩⟩) (fun y50 n52 => ?_)
      refine P_inc 150 [(3, .int (i32 (cut (s.1 + 1)))), (0, .ref 181), (1, .int (i32 (j 1))), (2, .int (i32 (j 2)))] rfl rfl (by decide) rfl rfl ?_
      refine P_goto 126 rfl (fun _ => rfl) ?_
      refine P_some ?_
      refine P_lv (b := [(0, .ref 181), (1, .int (i32 (j 1))), (2, .int (i32 (j 2))), (3, .int (i32 (cut (s.1 + 1))))]) rfl rfl ⟨rfl, rfl, rfl, rfl, trivial⟩ ?_
      exact H1 (cut (s.1 + 1), y50.2.2) (jk [(1, j 1), (2, j 2)]) ⟨cut_r, n52⟩
def kfl_fm_goesOn_124 (m : mR) : Option (Int × Int × mR) :=
  bnd (whl kfb_fm_goesOn_126 (0, m)) (sel
    (fun e53 : mR =>
      kfl_fm_goesOn_153 e53)
    (fun e56 : Int × mR =>
      some (e56.1, 0, e56.2)))
theorem dg_fm_goesOn_124 (w : wX) (c : Nat → Option am_C) (N D : Nat) (bb : Nat) (m : mR) (hm : KCn m) (j : Nat → Int) : PP bb w D pm_103 (124, [(0, .ref 181), (1, .int (i32 (j 1))), (2, .int (i32 (j 2))), (3, .int (i32 (j 3)))], [], (khp m c, N), 0, 0) (QS (FX1 c N) (kfl_fm_goesOn_124 m)) := by
  unfold kfl_fm_goesOn_124
  show PP bb w D pm_103 (124, [(0, .ref 181), (1, .int (i32 (j 1))), (2, .int (i32 (j 2))), (3, .int (i32 (j 3)))], [], (khp (mO m [] []) c, N), 0, 0) _
  refine P_ld 125 (.int (i32 0)) rfl (fun _ => rfl) ?_
  refine P_sto 126 [(3, .int (i32 0)), (0, .ref 181), (1, .int (i32 (j 1))), (2, .int (i32 (j 2)))] rfl (fun _ => rfl) ?_
  refine P_lv (b := [(0, .ref 181), (1, .int (i32 (j 1))), (2, .int (i32 (j 2))), (3, .int (i32 0))]) rfl rfl ⟨rfl, rfl, rfl, rfl, trivial⟩ ?_
  refine P_bnd ?_
  refine P_whlx (TX := tx_fm_goesOn_126 c N) (fun bb Q2 H1 H2 H3 s9 j9 hs9 => dh_fm_goesOn_126 w c N D bb Q2 H1 H2 H3 s9 j9 hs9) bb (fun x r hr => ?_) (fun x0 j hx0 => ?_) (0, m) (jk [(1, j 1), (2, j 2)]) ⟨(l32 0 rfl), hm⟩
  · skip
    cases x with
    | inl e => exact False.elim hr
    | inr x =>
      obtain ⟨x9, e9, k9, rfl⟩ := hr
      exact ⟨_, rfl, k9, Or.inr ⟨x9, e9, rfl⟩⟩
  cases x0 with
  | inl e53 =>
    have q54 := hx0
    have q55 := q54
    show PP bb w D pm_103 (153, [(0, .ref 181), (1, .int (i32 (j 1))), (2, .int (i32 (j 2))), (3, .int (i32 (j 3)))], [], (khp (mO e53 [] []) c, N), 0, 0) (QS _ (kfl_fm_goesOn_153 e53))
    exact dg_fm_goesOn_153 w c N D bb e53 q55 (jk [(1, j 1), (2, j 2), (3, j 3)])
  | inr e56 =>
    have q57 := hx0
    have q57 := q57
    exact False.elim q57
def kfl_fm_goesOn_111 (m : mR) : Option (Int × Int × mR) :=
  bnd (kf_fm_open (m.1 206) m) fun y58 =>
  if y58.1 = 0 then
    some (0, 1, y58.2.2)
  else
    some (y58.1, 0, y58.2.2)
theorem dg_fm_goesOn_111 (w : wX) (c : Nat → Option am_C) (N D : Nat) (bb : Nat) (m : mR) (hm : KCn m) (j : Nat → Int) : PP bb w D pm_103 (111, [(0, .ref 181), (1, .int (i32 (j 1))), (2, .int (i32 (j 2))), (3, .int (i32 (j 3)))], [], (khp m c, N), 0, 0) (QS (FX1 c N) (kfl_fm_goesOn_111 m)) := by
  unfold kfl_fm_goesOn_111
  show PP bb w D pm_103 (111, [(0, .ref 181), (1, .int (i32 (j 1))), (2, .int (i32 (j 2))), (3, .int (i32 (j 3)))], [], (khp (mO m [] []) c, N), 0, 0) _
  refine P_ld 112 (.ref 181) rfl (fun _ => rfl) ?_
  refine P_ld 113 (.ref 181) rfl (fun _ => rfl) ?_
  refine PK_gf 116 (.ref 6) rfl rfl kd_181 rfl rfl rfl ?_
  refine PK_gf 119 (.int (i32 (m.1 206))) rfl rfl kd_6 rfl rfl rfl ?_
  refine P_cx0 122 94 [.ref 181, .int (i32 (m.1 206))] [] rfl (fun _ => rfl) rfl rfl (D_fm_open w m c N D hm (m.1 206) (KCn_i hm 206 rfl)) (fun y x hm e => ⟨_, rfl, hm, Or.inr ⟨x, e, rfl⟩⟩) (fun y58 n60 => ?_)
  refine P_ld 123 (.int (i32 1)) rfl (fun _ => rfl) ?_
  exact P_rx1 rfl (l32 1 rfl) n60
def kfl_fm_goesOn_91 (v1 : Int) (m : mR) : Option (Int × Int × mR) :=
  if v1 ≤ 0 then
    kfl_fm_goesOn_124 m
  else
    if v1 = 3 then
      bnd (kf_fm_top m) fun y63 =>
      bnd (kf_fm_levelOf y63 m) fun y66 =>
      if y66 = 3 then
        kfl_fm_goesOn_124 m
      else
        kfl_fm_goesOn_111 m
    else
      kfl_fm_goesOn_111 m
theorem dg_fm_goesOn_91 (w : wX) (c : Nat → Option am_C) (N D : Nat) (bb : Nat) (v1 : Int) (q1 : R32 v1) (m : mR) (hm : KCn m) (j : Nat → Int) : PP bb w D pm_103 (91, [(0, .ref 181), (1, .int (i32 v1)), (2, .int (i32 (j 2))), (3, .int (i32 (j 3)))], [], (khp m c, N), 0, 0) (QS (FX1 c N) (kfl_fm_goesOn_91 v1 m)) := by
  unfold kfl_fm_goesOn_91
  show PP bb w D pm_103 (91, [(0, .ref 181), (1, .int (i32 v1)), (2, .int (i32 (j 2))), (3, .int (i32 (j 3)))], [], (khp (mO m [] []) c, N), 0, 0) _
  refine P_ld 92 (.int (i32 v1)) rfl (fun _ => rfl) ?_
  refine P_ifF 124 95 rfl rfl rfl q1 rfl (fun h61 => ?_) (fun h61 => ?_)
  · skip
    exact dg_fm_goesOn_124 w c N D bb m hm (jk [(1, v1), (2, j 2), (3, j 3)])
  · skip
    refine P_ld 96 (.int (i32 v1)) rfl (fun _ => rfl) ?_
    refine P_ld 97 (.int (i32 3)) rfl (fun _ => rfl) ?_
    refine P_icE 111 100 rfl rfl rfl q1 (l32 3 rfl) rfl (fun h62 => ?_) (fun h62 => ?_)
    · skip
      refine P_ld 101 (.ref 181) rfl (fun _ => rfl) ?_
      refine P_cp1 104 104 [.ref 181] [] rfl (fun _ => rfl) rfl (D_fm_top w m c N D hm) (fun y63 h64 => ?_)
      refine P_cp1 107 108 [.int (i32 y63)] [] rfl (fun _ => rfl) rfl (D_fm_levelOf w m c N D hm y63 h64) (fun y66 h67 => ?_)
      refine P_ld 108 (.int (i32 3)) rfl (fun _ => rfl) ?_
      refine P_icF 124 111 rfl rfl rfl h67 (l32 3 rfl) rfl (fun h69 => ?_) (fun h69 => ?_)
      · skip
        exact dg_fm_goesOn_124 w c N D bb m hm (jk [(1, v1), (2, j 2), (3, j 3)])
      · skip
        exact dg_fm_goesOn_111 w c N D bb m hm (jk [(1, v1), (2, j 2), (3, j 3)])
    · skip
      exact dg_fm_goesOn_111 w c N D bb m hm (jk [(1, v1), (2, j 2), (3, j 3)])
def kfb_fm_goesOn_63 (v1 : Int) (v2 : Int) (s : Int × mR) : Option (Sum (Int × mR) (Sum (mR) (Int × mR))) :=
  if (288 : Int) ≤ s.1 then
    some (.inr (.inl s.2))
  else
    bnd (kf_fm_top s.2) fun y72 =>
    bnd (kf_fm_levelOf y72 s.2) fun y75 =>
    if y75 < v2 then
      some (.inr (.inl s.2))
    else
      bnd (kf_fm_closePair s.2) fun y79 =>
      if y79.1 = 0 then
        some (.inl (cut (s.1 + 1), y79.2.2))
      else
        some (.inr (.inr (y79.1, y79.2.2)))
theorem dh_fm_goesOn_63 (w : wX) (c : Nat → Option am_C) (N D : Nat) (v1 : Int) (v2 : Int) (q1 : R32 v1) (q2 : R32 v2) (bb : Nat) (Q2 : Sum (Int × mR) (Sum (mR) (Int × mR)) → ag_Re af_T → Prop) (H1 : ∀ s j, cs_fm_goesOn_63 s → PP bb w D pm_103 (hd_fm_goesOn_63 c N v1 v2 s j) (Q2 (.inl s))) (H2 : ∀ x j, cx_fm_goesOn_63 x → PP bb w D pm_103 (ex_fm_goesOn_63 c N v1 v2 x j) (Q2 (.inr x))) (H3 : ∀ x r, tx_fm_goesOn_63 c N x r → Q2 (.inr x) r) (s : Int × mR) (j : Nat → Int) (hs : cs_fm_goesOn_63 s) : PP (bb + 1) w D pm_103 (hd_fm_goesOn_63 c N v1 v2 s j) (QS Q2 (kfb_fm_goesOn_63 v1 v2 s)) := by
  obtain ⟨g3, gm⟩ := hs
  unfold kfb_fm_goesOn_63
  show PP (bb + 1) w D pm_103 (63, [(0, .ref 181), (1, .int (i32 v1)), (2, .int (i32 v2)), (3, .int (i32 s.1))], [], (khp (mO s.2 [] []) c, N), 0, 0) _
  refine P1_ld 64 (.int (i32 s.1)) rfl (fun _ => rfl) ?_
  refine P_ld 67 (.int (i32 288)) rfl (fun _ => rfl) ?_
  refine P_icF 91 70 rfl rfl rfl g3 (l32 288 rfl) rfl (fun h71 => ?_) (fun h71 => ?_)
  · skip
    refine P_some ?_
    exact H2 (.inl s.2) (jk [(2, v2), (3, s.1)]) gm
  · skip
    refine P_ld 71 (.ref 181) rfl (fun _ => rfl) ?_
    refine P_cp1 74 104 [.ref 181] [] rfl (fun _ => rfl) rfl (D_fm_top w s.2 c N D gm) (fun y72 h73 => ?_)
    refine P_cp1 77 108 [.int (i32 y72)] [] rfl (fun _ => rfl) rfl (D_fm_levelOf w s.2 c N D gm y72 h73) (fun y75 h76 => ?_)
    refine P_ld 78 (.int (i32 v2)) rfl (fun _ => rfl) ?_
    refine P_icF 91 81 rfl rfl rfl h76 q2 rfl (fun h78 => ?_) (fun h78 => ?_)
    · skip
      refine P_some ?_
      exact H2 (.inl s.2) (jk [(2, v2), (3, s.1)]) gm
    · skip
      refine P_ld 82 (.ref 181) rfl (fun _ => rfl) ?_
      refine P_cx0 85 109 [.ref 181] [] rfl (fun _ => rfl) rfl rfl (D_fm_closePair w s.2 c N D gm) (fun y x hm e => ⟨_, rfl, H3 _ _ ⟨x, e, hm, rfl⟩⟩) (fun y79 n81 => ?_)
      refine P_inc 88 [(3, .int (i32 (cut (s.1 + 1)))), (0, .ref 181), (1, .int (i32 v1)), (2, .int (i32 v2))] rfl rfl (by decide) rfl rfl ?_
      refine P_goto 63 rfl (fun _ => rfl) ?_
      refine P_some ?_
      refine P_lv (b := [(0, .ref 181), (1, .int (i32 v1)), (2, .int (i32 v2)), (3, .int (i32 (cut (s.1 + 1))))]) rfl rfl ⟨rfl, rfl, rfl, rfl, trivial⟩ ?_
      exact H1 (cut (s.1 + 1), y79.2.2) (jk []) ⟨cut_r, n81⟩
def kfl_fm_goesOn_60 (v1 : Int) (u0 : Int) (m : mR) : Option (Int × Int × mR) :=
  bnd (whl (kfb_fm_goesOn_63 v1 u0) (0, m)) (sel
    (fun e82 : mR =>
      kfl_fm_goesOn_91 v1 e82)
    (fun e85 : Int × mR =>
      some (e85.1, 0, e85.2)))
theorem dg_fm_goesOn_60 (w : wX) (c : Nat → Option am_C) (N D : Nat) (bb : Nat) (v1 : Int) (u0 : Int) (q1 : R32 v1) (r0 : R32 u0) (m : mR) (hm : KCn m) (j : Nat → Int) : PP bb w D pm_103 (60, [(0, .ref 181), (1, .int (i32 v1))], [.int (i32 u0)], (khp m c, N), 0, 0) (QS (FX1 c N) (kfl_fm_goesOn_60 v1 u0 m)) := by
  unfold kfl_fm_goesOn_60
  show PP bb w D pm_103 (60, [(0, .ref 181), (1, .int (i32 v1))], [.int (i32 u0)], (khp (mO m [] []) c, N), 0, 0) _
  refine P_sto 61 [(2, .int (i32 u0)), (0, .ref 181), (1, .int (i32 v1))] rfl (fun _ => rfl) ?_
  refine P_ld 62 (.int (i32 0)) rfl (fun _ => rfl) ?_
  refine P_sto 63 [(3, .int (i32 0)), (2, .int (i32 u0)), (0, .ref 181), (1, .int (i32 v1))] rfl (fun _ => rfl) ?_
  refine P_lv (b := [(0, .ref 181), (1, .int (i32 v1)), (2, .int (i32 u0)), (3, .int (i32 0))]) rfl rfl ⟨rfl, rfl, rfl, rfl, trivial⟩ ?_
  refine P_bnd ?_
  refine P_whlx (TX := tx_fm_goesOn_63 c N) (fun bb Q2 H1 H2 H3 s9 j9 hs9 => dh_fm_goesOn_63 w c N D v1 u0 q1 r0 bb Q2 H1 H2 H3 s9 j9 hs9) bb (fun x r hr => ?_) (fun x0 j hx0 => ?_) (0, m) (jk []) ⟨(l32 0 rfl), hm⟩
  · skip
    cases x with
    | inl e => exact False.elim hr
    | inr x =>
      obtain ⟨x9, e9, k9, rfl⟩ := hr
      exact ⟨_, rfl, k9, Or.inr ⟨x9, e9, rfl⟩⟩
  cases x0 with
  | inl e82 =>
    have q83 := hx0
    have q84 := q83
    show PP bb w D pm_103 (91, [(0, .ref 181), (1, .int (i32 v1)), (2, .int (i32 (j 2))), (3, .int (i32 (j 3)))], [], (khp (mO e82 [] []) c, N), 0, 0) (QS _ (kfl_fm_goesOn_91 v1 e82))
    exact dg_fm_goesOn_91 w c N D bb v1 q1 e82 q84 (jk [(2, j 2), (3, j 3)])
  | inr e85 =>
    have q86 := hx0
    have q86 := q86
    exact False.elim q86
def kfl_fm_goesOn_29 (m : mR) : Option (Int × Int × mR) :=
  bnd (kf_fm_levelOf (m.1 206) m) fun y87 =>
  if y87 = 0 then
    kfl_fm_goesOn_60 y87 1 m
  else
    if y87 = 3 then
      kfl_fm_goesOn_60 y87 (cut (y87 + 1)) m
    else
      kfl_fm_goesOn_60 y87 y87 m
theorem dg_fm_goesOn_29 (w : wX) (c : Nat → Option am_C) (N D : Nat) (bb : Nat) (m : mR) (hm : KCn m) (j : Nat → Int) : PP bb w D pm_103 (29, [(0, .ref 181), (1, .int (i32 (j 1)))], [], (khp m c, N), 0, 0) (QS (FX1 c N) (kfl_fm_goesOn_29 m)) := by
  unfold kfl_fm_goesOn_29
  show PP bb w D pm_103 (29, [(0, .ref 181), (1, .int (i32 (j 1)))], [], (khp (mO m [] []) c, N), 0, 0) _
  refine P_ld 30 (.ref 181) rfl (fun _ => rfl) ?_
  refine PK_gf 33 (.ref 6) rfl rfl kd_181 rfl rfl rfl ?_
  refine PK_gf 36 (.int (i32 (m.1 206))) rfl rfl kd_6 rfl rfl rfl ?_
  refine P_cp1 39 108 [.int (i32 (m.1 206))] [] rfl (fun _ => rfl) rfl (D_fm_levelOf w m c N D hm (m.1 206) (KCn_i hm 206 rfl)) (fun y87 h88 => ?_)
  refine P_sto 40 [(1, .int (i32 y87)), (0, .ref 181)] rfl (fun _ => rfl) ?_
  refine P_ld 41 (.int (i32 y87)) rfl (fun _ => rfl) ?_
  refine P_ifE 48 44 rfl rfl rfl h88 rfl (fun h90 => ?_) (fun h90 => ?_)
  · skip
    refine P_ld 45 (.int (i32 1)) rfl (fun _ => rfl) ?_
    refine P_goto 60 rfl (fun _ => rfl) ?_
    refine P_lv (b := [(0, .ref 181), (1, .int (i32 y87))]) rfl rfl ⟨rfl, rfl, trivial⟩ ?_
    exact dg_fm_goesOn_60 w c N D bb y87 1 h88 (l32 1 rfl) m hm (jk [])
  · skip
    refine P_ld 49 (.int (i32 y87)) rfl (fun _ => rfl) ?_
    refine P_ld 50 (.int (i32 3)) rfl (fun _ => rfl) ?_
    refine P_icE 59 53 rfl rfl rfl h88 (l32 3 rfl) rfl (fun h91 => ?_) (fun h91 => ?_)
    · skip
      refine P_ld 54 (.int (i32 y87)) rfl (fun _ => rfl) ?_
      refine P_ld 55 (.int (i32 1)) rfl (fun _ => rfl) ?_
      refine P_op 56 (cut (y87 + 1)) _ rfl (fun _ => rfl) o_add ?_
      refine P_goto 60 rfl (fun _ => rfl) ?_
      refine P_lv (b := [(0, .ref 181), (1, .int (i32 y87))]) rfl rfl ⟨rfl, rfl, trivial⟩ ?_
      exact dg_fm_goesOn_60 w c N D bb y87 (cut (y87 + 1)) h88 cut_r m hm (jk [])
    · skip
      refine P_ld 60 (.int (i32 y87)) rfl (fun _ => rfl) ?_
      refine P_lv (b := [(0, .ref 181), (1, .int (i32 y87))]) rfl rfl ⟨rfl, rfl, trivial⟩ ?_
      exact dg_fm_goesOn_60 w c N D bb y87 y87 h88 h88 m hm (jk [])
def kfb_fm_goesOn_2 (s : Int × mR) : Option (Sum (Int × mR) (Sum (mR) (Int × mR))) :=
  if (288 : Int) ≤ s.1 then
    some (.inr (.inl s.2))
  else
    bnd (kf_fm_top s.2) fun y94 =>
    bnd (kf_fm_isSingle y94 s.2) fun y97 =>
    if y97 = 0 then
      some (.inr (.inl s.2))
    else
      bnd (kf_fm_closeSingle s.2) fun y101 =>
      if y101.1 = 0 then
        some (.inl (cut (s.1 + 1), y101.2.2))
      else
        some (.inr (.inr (y101.1, y101.2.2)))
theorem dh_fm_goesOn_2 (w : wX) (c : Nat → Option am_C) (N D : Nat) (bb : Nat) (Q2 : Sum (Int × mR) (Sum (mR) (Int × mR)) → ag_Re af_T → Prop) (H1 : ∀ s j, cs_fm_goesOn_2 s → PP bb w D pm_103 (hd_fm_goesOn_2 c N s j) (Q2 (.inl s))) (H2 : ∀ x j, cx_fm_goesOn_2 x → PP bb w D pm_103 (ex_fm_goesOn_2 c N x j) (Q2 (.inr x))) (H3 : ∀ x r, tx_fm_goesOn_2 c N x r → Q2 (.inr x) r) (s : Int × mR) (j : Nat → Int) (hs : cs_fm_goesOn_2 s) : PP (bb + 1) w D pm_103 (hd_fm_goesOn_2 c N s j) (QS Q2 (kfb_fm_goesOn_2 s)) := by
  obtain ⟨g1, gm⟩ := hs
  unfold kfb_fm_goesOn_2
  show PP (bb + 1) w D pm_103 (2, [(0, .ref 181), (1, .int (i32 s.1))], [], (khp (mO s.2 [] []) c, N), 0, 0) _
  refine P1_ld 3 (.int (i32 s.1)) rfl (fun _ => rfl) ?_
  refine P_ld 6 (.int (i32 288)) rfl (fun _ => rfl) ?_
  refine P_icF 29 9 rfl rfl rfl g1 (l32 288 rfl) rfl (fun h93 => ?_) (fun h93 => ?_)
  · skip
    refine P_some ?_
    exact H2 (.inl s.2) (jk [(1, s.1)]) gm
  · skip
    refine P_ld 10 (.ref 181) rfl (fun _ => rfl) ?_
    refine P_cp1 13 104 [.ref 181] [] rfl (fun _ => rfl) rfl (D_fm_top w s.2 c N D gm) (fun y94 h95 => ?_)
    refine P_cp1 16 105 [.int (i32 y94)] [] rfl (fun _ => rfl) rfl (D_fm_isSingle w s.2 c N D gm y94 h95) (fun y97 h98 => ?_)
    refine P_ifF 29 19 rfl rfl rfl h98 rfl (fun h100 => ?_) (fun h100 => ?_)
    · skip
      refine P_some ?_
      exact H2 (.inl s.2) (jk [(1, s.1)]) gm
    · skip
      refine P_ld 20 (.ref 181) rfl (fun _ => rfl) ?_
      refine P_cx0 23 106 [.ref 181] [] rfl (fun _ => rfl) rfl rfl (D_fm_closeSingle w s.2 c N D gm) (fun y x hm e => ⟨_, rfl, H3 _ _ ⟨x, e, hm, rfl⟩⟩) (fun y101 n103 => ?_)
      refine P_inc 26 [(1, .int (i32 (cut (s.1 + 1)))), (0, .ref 181)] rfl rfl (by decide) rfl rfl ?_
      refine P_goto 2 rfl (fun _ => rfl) ?_
      refine P_some ?_
      refine P_lv (b := [(0, .ref 181), (1, .int (i32 (cut (s.1 + 1))))]) rfl rfl ⟨rfl, rfl, trivial⟩ ?_
      exact H1 (cut (s.1 + 1), y101.2.2) (jk []) ⟨cut_r, n103⟩
def kf_fm_goesOn (m : mR) : Option (Int × Int × mR) :=
  bnd (whl kfb_fm_goesOn_2 (0, m)) (sel
    (fun e104 : mR =>
      kfl_fm_goesOn_29 e104)
    (fun e107 : Int × mR =>
      some (e107.1, 0, e107.2)))
theorem D_fm_goesOn (w : wX) (m : mR) (c : Nat → Option am_C) (N D : Nat) (hm : KCn m) : PC w D 103 [.ref 181] (khp m c, N) (QS (FX1 c N) (kf_fm_goesOn m)) := by
  refine Pc_of (fun D bb => ?_) D
  unfold kf_fm_goesOn
  show PP bb w D pm_103 (0, [(0, .ref 181)], [], (khp (mO m [] []) c, N), 0, 0) _
  refine P_ld 1 (.int (i32 0)) rfl (fun _ => rfl) ?_
  refine P_sto 2 [(1, .int (i32 0)), (0, .ref 181)] rfl (fun _ => rfl) ?_
  refine P_lv (b := [(0, .ref 181), (1, .int (i32 0))]) rfl rfl ⟨rfl, rfl, trivial⟩ ?_
  refine P_bnd ?_
  refine P_whlx (TX := tx_fm_goesOn_2 c N) (fun bb Q2 H1 H2 H3 s9 j9 hs9 => dh_fm_goesOn_2 w c N D bb Q2 H1 H2 H3 s9 j9 hs9) bb (fun x r hr => ?_) (fun x0 j hx0 => ?_) (0, m) (jk []) ⟨(l32 0 rfl), hm⟩
  · skip
    cases x with
    | inl e => exact False.elim hr
    | inr x =>
      obtain ⟨x9, e9, k9, rfl⟩ := hr
      exact ⟨_, rfl, k9, Or.inr ⟨x9, e9, rfl⟩⟩
  cases x0 with
  | inl e104 =>
    have q105 := hx0
    have q106 := q105
    show PP bb w D pm_103 (29, [(0, .ref 181), (1, .int (i32 (j 1)))], [], (khp (mO e104 [] []) c, N), 0, 0) (QS _ (kfl_fm_goesOn_29 e104))
    exact dg_fm_goesOn_29 w c N D bb e104 q106 (jk [(1, j 1)])
  | inr e107 =>
    have q108 := hx0
    have q108 := q108
    exact False.elim q108
def cs_fm_prefixes_4 (s : Int × Int × mR) : Prop := R32 s.1 ∧ R32 s.2.1 ∧ KCn s.2.2
def cx_fm_prefixes_4 : (Sum (mR) (Int × mR)) → Prop := (sel (fun (e : mR) => KCn e) (fun (e : Int × mR) => False))
def hd_fm_prefixes_4 (c : Nat → Option am_C) (N : Nat) (s : Int × Int × mR) (j : Nat → Int) : ag_St af_T := (4, [(0, .ref 181), (1, .int (i32 s.1)), (2, .int (i32 s.2.1))], [], (khp s.2.2 c, N), 0, 0)
def ex_fm_prefixes_4 (c : Nat → Option am_C) (N : Nat) : (Sum (mR) (Int × mR)) → (Nat → Int) → ag_St af_T := (sel (fun (e : mR) (j : Nat → Int) => ((150, [(0, .ref 181), (1, .int (i32 (j 1))), (2, .int (i32 (j 2)))], [], (khp e c, N), 0, 0) : ag_St af_T)) (fun (e : Int × mR) (j : Nat → Int) => ((0, [], [], (khp e.2 c, N), 0, 0) : ag_St af_T)))
def tx_fm_prefixes_4 (c : Nat → Option am_C) (N : Nat) : (Sum (mR) (Int × mR)) → ag_Re af_T → Prop := (sel (fun (_ : mR) (_ : ag_Re af_T) => False) (fun (e : Int × mR) (r : ag_Re af_T) => ∃ x : Nat, e.1 = x + 1 ∧ KCn e.2 ∧ r = (.inr x, (khp e.2 c, N), 1, 6)))
def kfl_fm_prefixes_144 (v1 : Int) (v2 : Int) (m : mR) : Option (Sum (Int × Int × mR) (Sum (mR) (Int × mR))) :=
  some (.inl (v1, cut (v2 + 1), m))
theorem dg_fm_prefixes_144 (w : wX) (c : Nat → Option am_C) (N D : Nat) (bb : Nat) (v1 : Int) (v2 : Int) (q1 : R32 v1) (q2 : R32 v2) (m : mR) (hm : KCn m) (j : Nat → Int) (Q2 : Sum (Int × Int × mR) (Sum (mR) (Int × mR)) → ag_Re af_T → Prop) (H1 : ∀ s j, cs_fm_prefixes_4 s → PP bb w D pm_93 (hd_fm_prefixes_4 c N s j) (Q2 (.inl s))) (H2 : ∀ x j, cx_fm_prefixes_4 x → PP bb w D pm_93 (ex_fm_prefixes_4 c N x j) (Q2 (.inr x))) (H3 : ∀ x r, tx_fm_prefixes_4 c N x r → Q2 (.inr x) r) : PP bb w D pm_93 (144, [(0, .ref 181), (1, .int (i32 v1)), (2, .int (i32 v2))], [], (khp m c, N), 0, 0) (QS Q2 (kfl_fm_prefixes_144 v1 v2 m)) := by
  unfold kfl_fm_prefixes_144
  show PP bb w D pm_93 (144, [(0, .ref 181), (1, .int (i32 v1)), (2, .int (i32 v2))], [], (khp (mO m [] []) c, N), 0, 0) _
  refine P_inc 147 [(2, .int (i32 (cut (v2 + 1)))), (0, .ref 181), (1, .int (i32 v1))] rfl rfl (by decide) rfl rfl ?_
  refine P_goto 4 rfl (fun _ => rfl) ?_
  refine P_some ?_
  refine P_lv (b := [(0, .ref 181), (1, .int (i32 v1)), (2, .int (i32 (cut (v2 + 1))))]) rfl rfl ⟨rfl, rfl, rfl, trivial⟩ ?_
  exact H1 (v1, cut (v2 + 1), m) (jk []) ⟨q1, cut_r, hm⟩
def kfl_fm_prefixes_136 (v1 : Int) (v2 : Int) (u1 : Int) (m : mR) : Option (Sum (Int × Int × mR) (Sum (mR) (Int × mR))) :=
  bnd (kf_fm_open u1 m) fun y2 =>
  if y2.1 = 0 then
    kfl_fm_prefixes_144 v1 v2 y2.2.2
  else
    some (.inr (.inr (y2.1, y2.2.2)))
theorem dg_fm_prefixes_136 (w : wX) (c : Nat → Option am_C) (N D : Nat) (bb : Nat) (v1 : Int) (v2 : Int) (u1 : Int) (q1 : R32 v1) (q2 : R32 v2) (r1 : R32 u1) (m : mR) (hm : KCn m) (j : Nat → Int) (Q2 : Sum (Int × Int × mR) (Sum (mR) (Int × mR)) → ag_Re af_T → Prop) (H1 : ∀ s j, cs_fm_prefixes_4 s → PP bb w D pm_93 (hd_fm_prefixes_4 c N s j) (Q2 (.inl s))) (H2 : ∀ x j, cx_fm_prefixes_4 x → PP bb w D pm_93 (ex_fm_prefixes_4 c N x j) (Q2 (.inr x))) (H3 : ∀ x r, tx_fm_prefixes_4 c N x r → Q2 (.inr x) r) : PP bb w D pm_93 (136, [(0, .ref 181), (1, .int (i32 v1)), (2, .int (i32 v2))], [.int (i32 u1), .ref 181], (khp m c, N), 0, 0) (QS Q2 (kfl_fm_prefixes_136 v1 v2 u1 m)) := by
  unfold kfl_fm_prefixes_136
  show PP bb w D pm_93 (136, [(0, .ref 181), (1, .int (i32 v1)), (2, .int (i32 v2))], [.int (i32 u1), .ref 181], (khp (mO m [] []) c, N), 0, 0) _
  refine P_cx0 139 94 [.ref 181, .int (i32 u1)] [] rfl (fun _ => rfl) rfl rfl (D_fm_open w m c N D hm u1 r1) (fun y x hm e => ⟨_, rfl, H3 _ _ ⟨x, e, hm, rfl⟩⟩) (fun y2 n4 => ?_)
  refine P_goto 144 rfl (fun _ => rfl) ?_
  exact dg_fm_prefixes_144 w c N D bb v1 v2 q1 q2 y2.2.2 n4 (jk []) Q2 H1 H2 H3
def kfl_fm_prefixes_100 (v1 : Int) (v2 : Int) (m : mR) : Option (Sum (Int × Int × mR) (Sum (mR) (Int × mR))) :=
  if m.1 206 = 45 then
    kfl_fm_prefixes_136 v1 v2 405 (mO m [(230, cut ((m.1 230) + 1))] [])
  else
    kfl_fm_prefixes_136 v1 v2 (m.1 206) (mO m [(230, cut ((m.1 230) + 1))] [])
theorem dg_fm_prefixes_100 (w : wX) (c : Nat → Option am_C) (N D : Nat) (bb : Nat) (v1 : Int) (v2 : Int) (q1 : R32 v1) (q2 : R32 v2) (m : mR) (hm : KCn m) (j : Nat → Int) (Q2 : Sum (Int × Int × mR) (Sum (mR) (Int × mR)) → ag_Re af_T → Prop) (H1 : ∀ s j, cs_fm_prefixes_4 s → PP bb w D pm_93 (hd_fm_prefixes_4 c N s j) (Q2 (.inl s))) (H2 : ∀ x j, cx_fm_prefixes_4 x → PP bb w D pm_93 (ex_fm_prefixes_4 c N x j) (Q2 (.inr x))) (H3 : ∀ x r, tx_fm_prefixes_4 c N x r → Q2 (.inr x) r) : PP bb w D pm_93 (100, [(0, .ref 181), (1, .int (i32 v1)), (2, .int (i32 v2))], [], (khp m c, N), 0, 0) (QS Q2 (kfl_fm_prefixes_100 v1 v2 m)) := by
  unfold kfl_fm_prefixes_100
  show PP bb w D pm_93 (100, [(0, .ref 181), (1, .int (i32 v1)), (2, .int (i32 v2))], [], (khp (mO m [] []) c, N), 0, 0) _
  refine P_ld 101 (.ref 181) rfl (fun _ => rfl) ?_
  refine P_ld 102 (.ref 181) rfl (fun _ => rfl) ?_
  refine PK_gf 105 (.int (i32 (m.1 230))) rfl rfl kd_181 rfl rfl rfl ?_
  refine P_ld 106 (.int (i32 1)) rfl (fun _ => rfl) ?_
  refine P_op 107 (cut ((m.1 230) + 1)) _ rfl (fun _ => rfl) o_add ?_
  refine PK_pf (l' := [(230, cut ((m.1 230) + 1))]) 110 (cut ((m.1 230) + 1)) rfl rfl kd_181 rfl rfl rfl rfl rfl rfl rfl ?_
  refine P_ld 111 (.ref 181) rfl (fun _ => rfl) ?_
  refine P_ld 112 (.ref 181) rfl (fun _ => rfl) ?_
  refine PK_gf 115 (.ref 6) rfl rfl kd_181 rfl rfl rfl ?_
  refine PK_gf 118 (.int (i32 (m.1 206))) rfl rfl kd_6 rfl rfl rfl ?_
  refine P_ld 120 (.int (i32 45)) rfl (fun _ => rfl) ?_
  refine P_icE 129 123 rfl rfl rfl (KCn_i hm 206 rfl) (l32 45 rfl) rfl (fun h5 => ?_) (fun h5 => ?_)
  · skip
    refine P_ld 126 (.int (i32 405)) rfl (fun _ => rfl) ?_
    refine P_goto 136 rfl (fun _ => rfl) ?_
    exact dg_fm_prefixes_136 w c N D bb v1 v2 405 q1 q2 (l32 405 rfl) (mO m [(230, cut ((m.1 230) + 1))] []) (KCn_mO hm rfl rfl ⟨(kV_i rfl cut_r), trivial⟩ trivial) (jk []) Q2 H1 H2 H3
  · skip
    refine P_ld 130 (.ref 181) rfl (fun _ => rfl) ?_
    refine PK_gf 133 (.ref 6) rfl rfl kd_181 rfl rfl rfl ?_
    refine PK_gf 136 (.int (i32 (m.1 206))) rfl rfl kd_6 rfl rfl rfl ?_
    exact dg_fm_prefixes_136 w c N D bb v1 v2 (m.1 206) q1 q2 (KCn_i hm 206 rfl) (mO m [(230, cut ((m.1 230) + 1))] []) (KCn_mO hm rfl rfl ⟨(kV_i rfl cut_r), trivial⟩ trivial) (jk []) Q2 H1 H2 H3
def kfl_fm_prefixes_76 (v1 : Int) (v2 : Int) (m : mR) : Option (Sum (Int × Int × mR) (Sum (mR) (Int × mR))) :=
  if m.1 230 < 24 then
    kfl_fm_prefixes_100 v1 v2 m
  else
    bnd (kf_tx_fail 4 (m.1 207) m) fun y7 =>
    if y7.1 = 0 then
      kfl_fm_prefixes_100 v1 v2 y7.2.2
    else
      some (.inr (.inr (y7.1, y7.2.2)))
theorem dg_fm_prefixes_76 (w : wX) (c : Nat → Option am_C) (N D : Nat) (bb : Nat) (v1 : Int) (v2 : Int) (q1 : R32 v1) (q2 : R32 v2) (m : mR) (hm : KCn m) (j : Nat → Int) (Q2 : Sum (Int × Int × mR) (Sum (mR) (Int × mR)) → ag_Re af_T → Prop) (H1 : ∀ s j, cs_fm_prefixes_4 s → PP bb w D pm_93 (hd_fm_prefixes_4 c N s j) (Q2 (.inl s))) (H2 : ∀ x j, cx_fm_prefixes_4 x → PP bb w D pm_93 (ex_fm_prefixes_4 c N x j) (Q2 (.inr x))) (H3 : ∀ x r, tx_fm_prefixes_4 c N x r → Q2 (.inr x) r) : PP bb w D pm_93 (76, [(0, .ref 181), (1, .int (i32 v1)), (2, .int (i32 v2))], [], (khp m c, N), 0, 0) (QS Q2 (kfl_fm_prefixes_76 v1 v2 m)) := by
  unfold kfl_fm_prefixes_76
  show PP bb w D pm_93 (76, [(0, .ref 181), (1, .int (i32 v1)), (2, .int (i32 v2))], [], (khp (mO m [] []) c, N), 0, 0) _
  refine P_ld 77 (.ref 181) rfl (fun _ => rfl) ?_
  refine PK_gf 80 (.int (i32 (m.1 230))) rfl rfl kd_181 rfl rfl rfl ?_
  refine P_ld 82 (.int (i32 24)) rfl (fun _ => rfl) ?_
  refine P_icF 100 85 rfl rfl rfl (KCn_i hm 230 rfl) (l32 24 rfl) rfl (fun h6 => ?_) (fun h6 => ?_)
  · skip
    exact dg_fm_prefixes_100 w c N D bb v1 v2 q1 q2 m hm (jk []) Q2 H1 H2 H3
  · skip
    refine P_ld 86 (.ref 181) rfl (fun _ => rfl) ?_
    refine PK_gf 89 (.ref 6) rfl rfl kd_181 rfl rfl rfl ?_
    refine P_ld 90 (.int (i32 4)) rfl (fun _ => rfl) ?_
    refine P_ld 91 (.ref 181) rfl (fun _ => rfl) ?_
    refine PK_gf 94 (.ref 6) rfl rfl kd_181 rfl rfl rfl ?_
    refine PK_gf 97 (.int (i32 (m.1 207))) rfl rfl kd_6 rfl rfl rfl ?_
    refine P_cx0 100 51 [.ref 6, .int (i32 4), .int (i32 (m.1 207))] [] rfl (fun _ => rfl) rfl rfl (D_tx_fail w m c N D hm 4 (m.1 207) (l32 4 rfl) (KCn_i hm 207 rfl)) (fun y x hm e => ⟨_, rfl, H3 _ _ ⟨x, e, hm, rfl⟩⟩) (fun y7 n9 => ?_)
    exact dg_fm_prefixes_100 w c N D bb v1 v2 q1 q2 y7.2.2 n9 (jk []) Q2 H1 H2 H3
def kfb_fm_prefixes_4 (s : Int × Int × mR) : Option (Sum (Int × Int × mR) (Sum (mR) (Int × mR))) :=
  if (4000 : Int) < s.2.1 then
    some (.inr (.inl s.2.2))
  else
    if s.1 = 0 then
      some (.inr (.inl s.2.2))
    else
      if s.2.2.1 206 = 40 then
        bnd (kf_fm_open 40 s.2.2) fun y17 =>
        if y17.1 = 0 then
          bnd (kf_fm_deepen y17.2.2) fun y20 =>
          if y20.1 = 0 then
            kfl_fm_prefixes_144 s.1 s.2.1 y20.2.2
          else
            some (.inr (.inr (y20.1, y20.2.2)))
        else
          some (.inr (.inr (y17.1, y17.2.2)))
      else
        if s.2.2.1 206 = 126 then
          kfl_fm_prefixes_76 s.1 s.2.1 s.2.2
        else
          if s.2.2.1 206 = 33 then
            kfl_fm_prefixes_76 s.1 s.2.1 s.2.2
          else
            if s.2.2.1 206 = 45 then
              kfl_fm_prefixes_76 s.1 s.2.1 s.2.2
            else
              kfl_fm_prefixes_144 0 s.2.1 s.2.2
theorem dh_fm_prefixes_4 (w : wX) (c : Nat → Option am_C) (N D : Nat) (bb : Nat) (Q2 : Sum (Int × Int × mR) (Sum (mR) (Int × mR)) → ag_Re af_T → Prop) (H1 : ∀ s j, cs_fm_prefixes_4 s → PP bb w D pm_93 (hd_fm_prefixes_4 c N s j) (Q2 (.inl s))) (H2 : ∀ x j, cx_fm_prefixes_4 x → PP bb w D pm_93 (ex_fm_prefixes_4 c N x j) (Q2 (.inr x))) (H3 : ∀ x r, tx_fm_prefixes_4 c N x r → Q2 (.inr x) r) (s : Int × Int × mR) (j : Nat → Int) (hs : cs_fm_prefixes_4 s) : PP (bb + 1) w D pm_93 (hd_fm_prefixes_4 c N s j) (QS Q2 (kfb_fm_prefixes_4 s)) := by
  obtain ⟨g1, g2, gm⟩ := hs
  unfold kfb_fm_prefixes_4
  show PP (bb + 1) w D pm_93 (4, [(0, .ref 181), (1, .int (i32 s.1)), (2, .int (i32 s.2.1))], [], (khp (mO s.2.2 [] []) c, N), 0, 0) _
  refine P1_ld 5 (.int (i32 s.2.1)) rfl (fun _ => rfl) ?_
  refine P_ld 8 (.int (i32 4000)) rfl (fun _ => rfl) ?_
  refine P_icF 150 11 rfl rfl rfl g2 (l32 4000 rfl) rfl (fun h11 => ?_) (fun h11 => ?_)
  · skip
    refine P_some ?_
    exact H2 (.inl s.2.2) (jk [(1, s.1), (2, s.2.1)]) gm
  · skip
    refine P_ld 12 (.int (i32 s.1)) rfl (fun _ => rfl) ?_
    refine P_ifF 150 15 rfl rfl rfl g1 rfl (fun h12 => ?_) (fun h12 => ?_)
    · skip
      refine P_some ?_
      exact H2 (.inl s.2.2) (jk [(1, s.1), (2, s.2.1)]) gm
    · skip
      refine P_ld 16 (.ref 181) rfl (fun _ => rfl) ?_
      refine PK_gf 19 (.ref 6) rfl rfl kd_181 rfl rfl rfl ?_
      refine PK_gf 22 (.int (i32 (s.2.2.1 206))) rfl rfl kd_6 rfl rfl rfl ?_
      refine P_ld 24 (.int (i32 40)) rfl (fun _ => rfl) ?_
      refine P_icE 40 27 rfl rfl rfl (KCn_i gm 206 rfl) (l32 40 rfl) rfl (fun h13 => ?_) (fun h13 => ?_)
      · skip
        refine P_ld 28 (.ref 181) rfl (fun _ => rfl) ?_
        refine P_ld 30 (.int (i32 40)) rfl (fun _ => rfl) ?_
        refine P_cx0 33 94 [.ref 181, .int (i32 40)] [] rfl (fun _ => rfl) rfl rfl (D_fm_open w s.2.2 c N D gm 40 (l32 40 rfl)) (fun y x hm e => ⟨_, rfl, H3 _ _ ⟨x, e, hm, rfl⟩⟩) (fun y17 n19 => ?_)
        refine P_ld 34 (.ref 181) rfl (fun _ => rfl) ?_
        refine P_cx0 37 95 [.ref 181] [] rfl (fun _ => rfl) rfl rfl (D_fm_deepen w y17.2.2 c N D n19) (fun y x hm e => ⟨_, rfl, H3 _ _ ⟨x, e, hm, rfl⟩⟩) (fun y20 n22 => ?_)
        refine P_goto 144 rfl (fun _ => rfl) ?_
        exact dg_fm_prefixes_144 w c N D bb s.1 s.2.1 g1 g2 y20.2.2 n22 (jk []) Q2 H1 H2 H3
      · skip
        refine P_ld 41 (.ref 181) rfl (fun _ => rfl) ?_
        refine PK_gf 44 (.ref 6) rfl rfl kd_181 rfl rfl rfl ?_
        refine PK_gf 47 (.int (i32 (s.2.2.1 206))) rfl rfl kd_6 rfl rfl rfl ?_
        refine P_ld 49 (.int (i32 126)) rfl (fun _ => rfl) ?_
        refine P_icF 76 52 rfl rfl rfl (KCn_i gm 206 rfl) (l32 126 rfl) rfl (fun h14 => ?_) (fun h14 => ?_)
        · skip
          exact dg_fm_prefixes_76 w c N D bb s.1 s.2.1 g1 g2 s.2.2 gm (jk []) Q2 H1 H2 H3
        · skip
          refine P_ld 53 (.ref 181) rfl (fun _ => rfl) ?_
          refine PK_gf 56 (.ref 6) rfl rfl kd_181 rfl rfl rfl ?_
          refine PK_gf 59 (.int (i32 (s.2.2.1 206))) rfl rfl kd_6 rfl rfl rfl ?_
          refine P_ld 61 (.int (i32 33)) rfl (fun _ => rfl) ?_
          refine P_icF 76 64 rfl rfl rfl (KCn_i gm 206 rfl) (l32 33 rfl) rfl (fun h15 => ?_) (fun h15 => ?_)
          · skip
            exact dg_fm_prefixes_76 w c N D bb s.1 s.2.1 g1 g2 s.2.2 gm (jk []) Q2 H1 H2 H3
          · skip
            refine P_ld 65 (.ref 181) rfl (fun _ => rfl) ?_
            refine PK_gf 68 (.ref 6) rfl rfl kd_181 rfl rfl rfl ?_
            refine PK_gf 71 (.int (i32 (s.2.2.1 206))) rfl rfl kd_6 rfl rfl rfl ?_
            refine P_ld 73 (.int (i32 45)) rfl (fun _ => rfl) ?_
            refine P_icE 142 76 rfl rfl rfl (KCn_i gm 206 rfl) (l32 45 rfl) rfl (fun h16 => ?_) (fun h16 => ?_)
            · skip
              exact dg_fm_prefixes_76 w c N D bb s.1 s.2.1 g1 g2 s.2.2 gm (jk []) Q2 H1 H2 H3
            · skip
              refine P_ld 143 (.int (i32 0)) rfl (fun _ => rfl) ?_
              refine P_sto 144 [(1, .int (i32 0)), (0, .ref 181), (2, .int (i32 s.2.1))] rfl (fun _ => rfl) ?_
              refine P_lv (b := [(0, .ref 181), (1, .int (i32 0)), (2, .int (i32 s.2.1))]) rfl rfl ⟨rfl, rfl, rfl, trivial⟩ ?_
              exact dg_fm_prefixes_144 w c N D bb 0 s.2.1 (l32 0 rfl) g2 s.2.2 gm (jk []) Q2 H1 H2 H3
def kf_fm_prefixes (m : mR) : Option (Int × Int × mR) :=
  bnd (whl kfb_fm_prefixes_4 (1, 0, m)) (sel
    (fun e23 : mR =>
      some (0, 0, e23))
    (fun e26 : Int × mR =>
      some (e26.1, 0, e26.2)))
theorem D_fm_prefixes (w : wX) (m : mR) (c : Nat → Option am_C) (N D : Nat) (hm : KCn m) : PC w D 93 [.ref 181] (khp m c, N) (QS (FX0 c N) (kf_fm_prefixes m)) := by
  refine Pc_of (fun D bb => ?_) D
  unfold kf_fm_prefixes
  show PP bb w D pm_93 (0, [(0, .ref 181)], [], (khp (mO m [] []) c, N), 0, 0) _
  refine P_ld 1 (.int (i32 1)) rfl (fun _ => rfl) ?_
  refine P_sto 2 [(1, .int (i32 1)), (0, .ref 181)] rfl (fun _ => rfl) ?_
  refine P_ld 3 (.int (i32 0)) rfl (fun _ => rfl) ?_
  refine P_sto 4 [(2, .int (i32 0)), (1, .int (i32 1)), (0, .ref 181)] rfl (fun _ => rfl) ?_
  refine P_lv (b := [(0, .ref 181), (1, .int (i32 1)), (2, .int (i32 0))]) rfl rfl ⟨rfl, rfl, rfl, trivial⟩ ?_
  refine P_bnd ?_
  refine P_whlx (TX := tx_fm_prefixes_4 c N) (fun bb Q2 H1 H2 H3 s9 j9 hs9 => dh_fm_prefixes_4 w c N D bb Q2 H1 H2 H3 s9 j9 hs9) bb (fun x r hr => ?_) (fun x0 j hx0 => ?_) (1, 0, m) (jk []) ⟨(l32 1 rfl), (l32 0 rfl), hm⟩
  · skip
    cases x with
    | inl e => exact False.elim hr
    | inr x =>
      obtain ⟨x9, e9, k9, rfl⟩ := hr
      exact ⟨_, rfl, k9, Or.inr ⟨x9, e9, rfl⟩⟩
  cases x0 with
  | inl e23 =>
    have q24 := hx0
    have q25 := q24
    show PP bb w D pm_93 (150, [(0, .ref 181), (1, .int (i32 (j 1))), (2, .int (i32 (j 2)))], [], (khp (mO e23 [] []) c, N), 0, 0) (QS _ (some (0, 0, e23)))
    exact P_rx0 rfl rfl q25
  | inr e26 =>
    have q27 := hx0
    have q27 := q27
    exact False.elim q27
def cs_ac_parameterOf_3 (s : Int) : Prop := R32 s
def cx_ac_parameterOf_3 : (Sum (Int) (Unit)) → Prop := (sel (fun (e : Int) => R32 e) (fun (e : Unit) => True))
def hd_ac_parameterOf_3 (c : Nat → Option am_C) (N : Nat) (v1 : Int) (v2 : Int) (v4 : Int) (m : mR) (s : Int) (j : Nat → Int) : ag_St af_T := (3, [(0, .ref 45), (1, .int (i32 v1)), (2, .long (i64 v2)), (4, .long (i64 v4)), (6, .int (i32 s)), (7, .int (i32 (j 7)))], [], (khp m c, N), 0, 0)
def ex_ac_parameterOf_3 (c : Nat → Option am_C) (N : Nat) (v1 : Int) (v2 : Int) (v4 : Int) (m : mR) : (Sum (Int) (Unit)) → (Nat → Int) → ag_St af_T := (sel (fun (e : Int) (j : Nat → Int) => ((52, [(0, .ref 45), (1, .int (i32 (j 1))), (2, .long (i64 (j 2))), (4, .long (i64 (j 4))), (6, .int (i32 e)), (7, .int (i32 (j 7)))], [], (khp m c, N), 0, 0) : ag_St af_T)) (fun (e : Unit) (j : Nat → Int) => ((61, [(0, .ref 45), (1, .int (i32 (j 1))), (2, .long (i64 (j 2))), (4, .long (i64 (j 4))), (6, .int (i32 (j 6))), (7, .int (i32 (j 7)))], [], (khp m c, N), 0, 0) : ag_St af_T)))
def kfl_ac_parameterOf_55 (v1 : Int) (v2 : Int) (v4 : Int) (v6 : Int) (m : mR) : Option (Sum (Int) (Sum (Int) (Unit))) :=
  some (.inl (cut (v6 + 1)))
theorem dg_ac_parameterOf_55 (w : wX) (c : Nat → Option am_C) (N D : Nat) (bb : Nat) (v1 : Int) (v2 : Int) (v4 : Int) (v6 : Int) (q1 : R32 v1) (q2 : R64 v2) (q4 : R64 v4) (q6 : R32 v6) (m : mR) (hm : KCn m) (j : Nat → Int) (Q2 : Sum (Int) (Sum (Int) (Unit)) → ag_Re af_T → Prop) (H1 : ∀ s j, cs_ac_parameterOf_3 s → PP bb w D pm_98 (hd_ac_parameterOf_3 c N v1 v2 v4 m s j) (Q2 (.inl s))) (H2 : ∀ x j, cx_ac_parameterOf_3 x → PP bb w D pm_98 (ex_ac_parameterOf_3 c N v1 v2 v4 m x j) (Q2 (.inr x))) : PP bb w D pm_98 (55, [(0, .ref 45), (1, .int (i32 v1)), (2, .long (i64 v2)), (4, .long (i64 v4)), (6, .int (i32 v6)), (7, .int (i32 (j 7)))], [], (khp m c, N), 0, 0) (QS Q2 (kfl_ac_parameterOf_55 v1 v2 v4 v6 m)) := by
  unfold kfl_ac_parameterOf_55
  show PP bb w D pm_98 (55, [(0, .ref 45), (1, .int (i32 v1)), (2, .long (i64 v2)), (4, .long (i64 v4)), (6, .int (i32 v6)), (7, .int (i32 (j 7)))], [], (khp (mO m [] []) c, N), 0, 0) _
  refine P_inc 58 [(6, .int (i32 (cut (v6 + 1)))), (0, .ref 45), (1, .int (i32 v1)), (2, .long (i64 v2)), (4, .long (i64 v4)), (7, .int (i32 (j 7)))] rfl rfl (by decide) rfl rfl ?_
  refine P_goto 3 rfl (fun _ => rfl) ?_
  refine P_some ?_
  refine P_lv (b := [(0, .ref 45), (1, .int (i32 v1)), (2, .long (i64 v2)), (4, .long (i64 v4)), (6, .int (i32 (cut (v6 + 1)))), (7, .int (i32 (j 7)))]) rfl rfl ⟨rfl, rfl, rfl, rfl, rfl, rfl, trivial⟩ ?_
  exact H1 (cut (v6 + 1)) (jk [(7, j 7)]) cut_r
def kfb_ac_parameterOf_3 (v1 : Int) (v2 : Int) (v4 : Int) (m : mR) (s : Int) : Option (Sum (Int) (Sum (Int) (Unit))) :=
  if v1 = (-1) then
    some (.inr (.inr ()))
  else
    if (m.2 39) v1 ≤ s then
      some (.inr (.inr ()))
    else
      if cmp64 ((m.2 41) (cut ((cut (v1 * 4)) + s))) v2 = 0 then
        if cmp64 ((m.2 42) (cut ((cut (v1 * 4)) + s))) v4 = 0 then
          some (.inr (.inl s))
        else
          kfl_ac_parameterOf_55 v1 v2 v4 s m
      else
        kfl_ac_parameterOf_55 v1 v2 v4 s m
theorem dh_ac_parameterOf_3 (w : wX) (c : Nat → Option am_C) (N D : Nat) (v1 : Int) (v2 : Int) (v4 : Int) (q1 : R32 v1) (q2 : R64 v2) (q4 : R64 v4) (m : mR) (hm : KCn m) (bb : Nat) (Q2 : Sum (Int) (Sum (Int) (Unit)) → ag_Re af_T → Prop) (H1 : ∀ s j, cs_ac_parameterOf_3 s → PP bb w D pm_98 (hd_ac_parameterOf_3 c N v1 v2 v4 m s j) (Q2 (.inl s))) (H2 : ∀ x j, cx_ac_parameterOf_3 x → PP bb w D pm_98 (ex_ac_parameterOf_3 c N v1 v2 v4 m x j) (Q2 (.inr x))) (s : Int) (j : Nat → Int) (hs : cs_ac_parameterOf_3 s) : PP (bb + 1) w D pm_98 (hd_ac_parameterOf_3 c N v1 v2 v4 m s j) (QS Q2 (kfb_ac_parameterOf_3 v1 v2 v4 m s)) := by
  have g6 := hs
  unfold kfb_ac_parameterOf_3
  show PP (bb + 1) w D pm_98 (3, [(0, .ref 45), (1, .int (i32 v1)), (2, .long (i64 v2)), (4, .long (i64 v4)), (6, .int (i32 s)), (7, .int (i32 (j 7)))], [], (khp (mO m [] []) c, N), 0, 0) _
  refine P1_ld 4 (.int (i32 v1)) rfl (fun _ => rfl) ?_
  refine P_ld 5 (.int (i32 (-1))) rfl (fun _ => rfl) ?_
  refine P_icF 61 8 rfl rfl rfl q1 (l32 (-1) rfl) rfl (fun h3 => ?_) (fun h3 => ?_)
  · skip
    refine P_some ?_
    exact H2 (.inr ()) (jk [(1, v1), (2, v2), (4, v4), (6, s), (7, j 7)]) trivial
  · skip
    refine P_ld 10 (.int (i32 s)) rfl (fun _ => rfl) ?_
    refine P_ld 11 (.ref 45) rfl (fun _ => rfl) ?_
    refine PK_gf 14 (.ref 46) rfl rfl kd_45 rfl rfl rfl ?_
    refine P_ld 15 (.int (i32 v1)) rfl (fun _ => rfl) ?_
    refine PK_iald2 16 39 (m.2 39) rfl rfl rfl q1 rfl ?_
    refine P_icF 61 19 rfl rfl rfl g6 (kE_i (KCn_a hm 39) rfl _) rfl (fun h4 => ?_) (fun h4 => ?_)
    · skip
      refine P_some ?_
      exact H2 (.inr ()) (jk [(1, v1), (2, v2), (4, v4), (6, s), (7, j 7)]) trivial
    · skip
      refine P_ld 20 (.int (i32 v1)) rfl (fun _ => rfl) ?_
      refine P_ld 21 (.int (i32 4)) rfl (fun _ => rfl) ?_
      refine P_op 22 (cut (v1 * 4)) _ rfl (fun _ => rfl) o_mul ?_
      refine P_ld 24 (.int (i32 s)) rfl (fun _ => rfl) ?_
      refine P_op 25 (cut ((cut (v1 * 4)) + s)) _ rfl (fun _ => rfl) o_add ?_
      refine P_sto 27 [(7, .int (i32 (cut ((cut (v1 * 4)) + s)))), (0, .ref 45), (1, .int (i32 v1)), (2, .long (i64 v2)), (4, .long (i64 v4)), (6, .int (i32 s))] rfl (fun _ => rfl) ?_
      refine P_ld 28 (.ref 45) rfl (fun _ => rfl) ?_
      refine PK_gf 31 (.ref 48) rfl rfl kd_45 rfl rfl rfl ?_
      refine P_ld 33 (.int (i32 (cut ((cut (v1 * 4)) + s)))) rfl (fun _ => rfl) ?_
      refine PK_lald2 34 41 (m.2 41) rfl rfl rfl cut_r rfl ?_
      refine P_ld 35 (.long (i64 v2)) rfl (fun _ => rfl) ?_
      refine P_op 36 (cmp64 ((m.2 41) (cut ((cut (v1 * 4)) + s))) v2) _ rfl (fun _ => rfl) (o_cmp (kE_l (KCn_a hm 41) rfl _) q2) ?_
      refine P_ifE 55 39 rfl rfl rfl cmp64_r rfl (fun h5 => ?_) (fun h5 => ?_)
      · skip
        refine P_ld 40 (.ref 45) rfl (fun _ => rfl) ?_
        refine PK_gf 43 (.ref 49) rfl rfl kd_45 rfl rfl rfl ?_
        refine P_ld 45 (.int (i32 (cut ((cut (v1 * 4)) + s)))) rfl (fun _ => rfl) ?_
        refine PK_lald2 46 42 (m.2 42) rfl rfl rfl cut_r rfl ?_
        refine P_ld 48 (.long (i64 v4)) rfl (fun _ => rfl) ?_
        refine P_op 49 (cmp64 ((m.2 42) (cut ((cut (v1 * 4)) + s))) v4) _ rfl (fun _ => rfl) (o_cmp (kE_l (KCn_a hm 42) rfl _) q4) ?_
        refine P_ifE 55 52 rfl rfl rfl cmp64_r rfl (fun h6 => ?_) (fun h6 => ?_)
        · skip
          refine P_some ?_
          refine P_lv (b := [(0, .ref 45), (1, .int (i32 v1)), (2, .long (i64 v2)), (4, .long (i64 v4)), (6, .int (i32 s)), (7, .int (i32 (cut ((cut (v1 * 4)) + s))))]) rfl rfl ⟨rfl, rfl, rfl, rfl, rfl, rfl, trivial⟩ ?_
          exact H2 (.inl s) (jk [(1, v1), (2, v2), (4, v4), (7, cut ((cut (v1 * 4)) + s))]) g6
        · skip
          refine P_lv (b := [(0, .ref 45), (1, .int (i32 v1)), (2, .long (i64 v2)), (4, .long (i64 v4)), (6, .int (i32 s)), (7, .int (i32 (cut ((cut (v1 * 4)) + s))))]) rfl rfl ⟨rfl, rfl, rfl, rfl, rfl, rfl, trivial⟩ ?_
          exact dg_ac_parameterOf_55 w c N D bb v1 v2 v4 s q1 q2 q4 g6 m hm (jk [(7, cut ((cut (v1 * 4)) + s))]) Q2 H1 H2
      · skip
        refine P_lv (b := [(0, .ref 45), (1, .int (i32 v1)), (2, .long (i64 v2)), (4, .long (i64 v4)), (6, .int (i32 s)), (7, .int (i32 (cut ((cut (v1 * 4)) + s))))]) rfl rfl ⟨rfl, rfl, rfl, rfl, rfl, rfl, trivial⟩ ?_
        exact dg_ac_parameterOf_55 w c N D bb v1 v2 v4 s q1 q2 q4 g6 m hm (jk [(7, cut ((cut (v1 * 4)) + s))]) Q2 H1 H2
def kf_ac_parameterOf (v1 : Int) (v2 : Int) (v4 : Int) (m : mR) : Option Int :=
  bnd (whl (kfb_ac_parameterOf_3 v1 v2 v4 m) 0) (sel
    (fun e7 : Int =>
      some e7)
    (fun e10 : Unit =>
      some (-1)))
theorem D_ac_parameterOf (w : wX) (m : mR) (c : Nat → Option am_C) (N D : Nat) (hm : KCn m) (v1 : Int) (v2 : Int) (v4 : Int) (q1 : R32 v1) (q2 : R64 v2) (q4 : R64 v4) : PC w D 98 [.ref 45, .int (i32 v1), .long (i64 v2), .long (i64 v4)] (khp m c, N) (QS (FP1 (khp m c, N)) (kf_ac_parameterOf v1 v2 v4 m)) := by
  refine Pc_of (fun D bb => ?_) D
  unfold kf_ac_parameterOf
  show PP bb w D pm_98 (0, [(0, .ref 45), (1, .int (i32 v1)), (2, .long (i64 v2)), (4, .long (i64 v4))], [], (khp (mO m [] []) c, N), 0, 0) _
  refine P_ld 1 (.int (i32 0)) rfl (fun _ => rfl) ?_
  refine P_sto 3 [(6, .int (i32 0)), (0, .ref 45), (1, .int (i32 v1)), (2, .long (i64 v2)), (4, .long (i64 v4))] rfl (fun _ => rfl) ?_
  refine P_lv (b := [(0, .ref 45), (1, .int (i32 v1)), (2, .long (i64 v2)), (4, .long (i64 v4)), (6, .int (i32 0)), (7, .int (i32 0))]) rfl rfl ⟨rfl, rfl, rfl, rfl, rfl, trivial⟩ ?_
  refine P_bnd ?_
  refine P_whl (fun bb Q2 H1 H2 s9 j9 hs9 => dh_ac_parameterOf_3 w c N D v1 v2 v4 q1 q2 q4 m hm bb Q2 H1 H2 s9 j9 hs9) bb (fun x0 j hx0 => ?_) 0 (jk []) (l32 0 rfl)
  cases x0 with
  | inl e7 =>
    have q8 := hx0
    have q9 := q8
    show PP bb w D pm_98 (52, [(0, .ref 45), (1, .int (i32 (j 1))), (2, .long (i64 (j 2))), (4, .long (i64 (j 4))), (6, .int (i32 e7)), (7, .int (i32 (j 7)))], [], (khp (mO m [] []) c, N), 0, 0) (QS _ (some e7))
    refine P_ld 54 (.int (i32 e7)) rfl (fun _ => rfl) ?_
    exact P_rp1 rfl q9
  | inr e10 =>
    have q11 := hx0
    show PP bb w D pm_98 (61, [(0, .ref 45), (1, .int (i32 (j 1))), (2, .long (i64 (j 2))), (4, .long (i64 (j 4))), (6, .int (i32 (j 6))), (7, .int (i32 (j 7)))], [], (khp (mO m [] []) c, N), 0, 0) (QS _ (some (-1)))
    refine P_ld 62 (.int (i32 (-1))) rfl (fun _ => rfl) ?_
    exact P_rp1 rfl (l32 (-1) rfl)
end X28I
