noncomputable section X55BH
def cs_doFirst_49 (s : Int × mR) : Prop := R32 s.1 ∧ Cn s.2
def cx_doFirst_49 : (mR) → Prop := (fun (e : mR) => Cn e)
def hd_doFirst_49 (c : Nat → Option am_C) (N : Nat) (v1 : Int) (v2 : Int) (s : Int × mR) (j : Nat → Int) : ag_St af_T := (49, [(0, .ref 189), (1, .int (i32 v1)), (2, .int (i32 v2)), (3, .int (i32 s.1))], [], (mhp s.2 c, N), 0, 0)
def ex_doFirst_49 (c : Nat → Option am_C) (N : Nat) (v1 : Int) (v2 : Int) : (mR) → (Nat → Int) → ag_St af_T := (fun (e : mR) (j : Nat → Int) => ((73, [(0, .ref 189), (1, .int (i32 v1)), (2, .int (i32 v2)), (3, .int (i32 (j 3)))], [], (mhp e c, N), 0, 0) : ag_St af_T))
def cs_doFirst_236 (s : Int × mR) : Prop := R32 s.1 ∧ Cn s.2
def cx_doFirst_236 : (mR) → Prop := (fun (e : mR) => Cn e)
def hd_doFirst_236 (c : Nat → Option am_C) (N : Nat) (s : Int × mR) (j : Nat → Int) : ag_St af_T := (236, [(0, .ref 189), (1, .int (i32 (j 1))), (2, .int (i32 (j 2))), (3, .int (i32 s.1)), (4, .int (i32 (j 4)))], [], (mhp s.2 c, N), 0, 0)
def ex_doFirst_236 (c : Nat → Option am_C) (N : Nat) : (mR) → (Nat → Int) → ag_St af_T := (fun (e : mR) (j : Nat → Int) => ((255, [(0, .ref 189), (1, .int (i32 (j 1))), (2, .int (i32 (j 2))), (3, .int (i32 (j 3))), (4, .int (i32 (j 4)))], [], (mhp e c, N), 0, 0) : ag_St af_T))
def rfl_doFirst_249 (v3 : Int) (m : mR) : Option (Sum (Int × mR) (mR)) :=
  some (.inl (cut (v3 + 1), m))
theorem dg_doFirst_249 (w : wX) (c : Nat → Option am_C) (N D : Nat) (bb : Nat) (v3 : Int) (q3 : R32 v3) (m : mR) (hm : Cn m) (j : Nat → Int) (Q2 : Sum (Int × mR) (mR) → ag_Re af_T → Prop) (H1 : ∀ s j, cs_doFirst_236 s → PP bb w D pm_313 (hd_doFirst_236 c N s j) (Q2 (.inl s))) (H2 : ∀ x j, cx_doFirst_236 x → PP bb w D pm_313 (ex_doFirst_236 c N x j) (Q2 (.inr x))) : PP bb w D pm_313 (249, [(0, .ref 189), (1, .int (i32 (j 1))), (2, .int (i32 (j 2))), (3, .int (i32 v3)), (4, .int (i32 (j 4)))], [], (mhp m c, N), 0, 0) (QS Q2 (rfl_doFirst_249 v3 m)) := by
  unfold rfl_doFirst_249
  show PP bb w D pm_313 (249, [(0, .ref 189), (1, .int (i32 (j 1))), (2, .int (i32 (j 2))), (3, .int (i32 v3)), (4, .int (i32 (j 4)))], [], (mhp (mO m [] []) c, N), 0, 0) _
  refine P_inc 252 [(3, .int (i32 (cut (v3 + 1)))), (0, .ref 189), (1, .int (i32 (j 1))), (2, .int (i32 (j 2))), (4, .int (i32 (j 4)))] rfl rfl (by decide) rfl rfl ?_
  refine P_goto 236 rfl (fun _ => rfl) ?_
  refine P_some ?_
  refine P_lv (b := [(0, .ref 189), (1, .int (i32 (j 1))), (2, .int (i32 (j 2))), (3, .int (i32 (cut (v3 + 1)))), (4, .int (i32 (j 4)))]) rfl rfl ⟨rfl, rfl, rfl, rfl, rfl, trivial⟩ ?_
  exact H1 (cut (v3 + 1), m) (jk [(1, j 1), (2, j 2), (4, j 4)]) ⟨cut_r, hm⟩
def rfb_doFirst_236 (s : Int × mR) : Option (Sum (Int × mR) (mR)) :=
  if s.2.1 149 ≤ s.1 then
    some (.inr s.2)
  else
    bnd (rf_moveDown s.1 s.2) fun y5 =>
    rfl_doFirst_249 s.1 y5.2
theorem dh_doFirst_236 (w : wX) (c : Nat → Option am_C) (N D : Nat) (bb : Nat) (Q2 : Sum (Int × mR) (mR) → ag_Re af_T → Prop) (H1 : ∀ s j, cs_doFirst_236 s → PP bb w D pm_313 (hd_doFirst_236 c N s j) (Q2 (.inl s))) (H2 : ∀ x j, cx_doFirst_236 x → PP bb w D pm_313 (ex_doFirst_236 c N x j) (Q2 (.inr x))) (s : Int × mR) (j : Nat → Int) (hs : cs_doFirst_236 s) : PP (bb + 1) w D pm_313 (hd_doFirst_236 c N s j) (QS Q2 (rfb_doFirst_236 s)) := by
  obtain ⟨g3, gm⟩ := hs
  unfold rfb_doFirst_236
  show PP (bb + 1) w D pm_313 (236, [(0, .ref 189), (1, .int (i32 (j 1))), (2, .int (i32 (j 2))), (3, .int (i32 s.1)), (4, .int (i32 (j 4)))], [], (mhp (mO s.2 [] []) c, N), 0, 0) _
  refine P1_ld 237 (.int (i32 s.1)) rfl (fun _ => rfl) ?_
  refine P_gf 241 (.int (i32 (s.2.1 149))) rfl rfl rfl rfl rfl rfl ?_
  refine P_icF 255 244 rfl rfl rfl g3 (Cn_i gm 149 rfl) rfl (fun h4 => ?_) (fun h4 => ?_)
  · skip
    refine P_some ?_
    exact H2 s.2 (jk [(1, j 1), (2, j 2), (3, s.1), (4, j 4)]) gm
  · skip
    refine P_ld 245 (.ref 189) rfl (fun _ => rfl) ?_
    refine P_ld 246 (.int (i32 s.1)) rfl (fun _ => rfl) ?_
    refine P_ca0 249 341 [.ref 189, .int (i32 s.1)] [] rfl (fun _ => rfl) rfl (D_moveDown w s.2 c N D gm s.1 g3) (fun y5 n7 => ?_)
    exact dg_doFirst_249 w c N D bb s.1 g3 y5.2 n7 (jk [(1, j 1), (2, j 2), (4, j 4)]) Q2 H1 H2
def rfl_doFirst_214 (m : mR) : Option (Int × mR) :=
  bnd (whl rfb_doFirst_236 (0, (mO m [(149, cut ((m.1 149) - 1)), (150, cut ((m.1 150) + 1))] []))) (fun e8 : mR =>
    some (0, e8))
theorem dg_doFirst_214 (w : wX) (c : Nat → Option am_C) (N D : Nat) (bb : Nat) (m : mR) (hm : Cn m) (j : Nat → Int) : PP bb w D pm_313 (214, [(0, .ref 189), (1, .int (i32 (j 1))), (2, .int (i32 (j 2))), (3, .int (i32 (j 3))), (4, .int (i32 (j 4)))], [], (mhp m c, N), 0, 0) (QS (FR0 c N) (rfl_doFirst_214 m)) := by
  unfold rfl_doFirst_214
  show PP bb w D pm_313 (214, [(0, .ref 189), (1, .int (i32 (j 1))), (2, .int (i32 (j 2))), (3, .int (i32 (j 3))), (4, .int (i32 (j 4)))], [], (mhp (mO m [] []) c, N), 0, 0) _
  refine P_ld 215 (.ref 189) rfl (fun _ => rfl) ?_
  refine P_ld 216 (.ref 189) rfl (fun _ => rfl) ?_
  refine P_gf1 219 (.int (i32 (m.1 150))) rfl rfl rfl rfl ?_
  refine P_ld 220 (.int (i32 1)) rfl (fun _ => rfl) ?_
  refine P_op 221 (cut ((m.1 150) + 1)) _ rfl (fun _ => rfl) o_add ?_
  refine P_pf (l' := [(150, cut ((m.1 150) + 1))]) 224 (cut ((m.1 150) + 1)) rfl rfl rfl rfl rfl rfl ?_
  refine P_ld 225 (.ref 189) rfl (fun _ => rfl) ?_
  refine P_ld 226 (.ref 189) rfl (fun _ => rfl) ?_
  refine P_gf1 229 (.int (i32 (m.1 149))) rfl rfl rfl rfl ?_
  refine P_ld 230 (.int (i32 1)) rfl (fun _ => rfl) ?_
  refine P_op 231 (cut ((m.1 149) - 1)) _ rfl (fun _ => rfl) o_sub ?_
  refine P_pf (l' := [(149, cut ((m.1 149) - 1)), (150, cut ((m.1 150) + 1))]) 234 (cut ((m.1 149) - 1)) rfl rfl rfl rfl rfl rfl ?_
  refine P_ld 235 (.int (i32 0)) rfl (fun _ => rfl) ?_
  refine P_sto 236 [(3, .int (i32 0)), (0, .ref 189), (1, .int (i32 (j 1))), (2, .int (i32 (j 2))), (4, .int (i32 (j 4)))] rfl (fun _ => rfl) ?_
  refine P_lv (b := [(0, .ref 189), (1, .int (i32 (j 1))), (2, .int (i32 (j 2))), (3, .int (i32 0)), (4, .int (i32 (j 4)))]) rfl rfl ⟨rfl, rfl, rfl, rfl, rfl, trivial⟩ ?_
  refine P_bnd ?_
  refine P_whl (fun bb Q2 H1 H2 s9 j9 hs9 => dh_doFirst_236 w c N D bb Q2 H1 H2 s9 j9 hs9) bb (fun e8 j q9 => ?_) (0, (mO m [(149, cut ((m.1 149) - 1)), (150, cut ((m.1 150) + 1))] [])) (jk [(1, j 1), (2, j 2), (4, j 4)]) ⟨(l32 0 rfl), (Cn_mO hm ⟨(rV_i rfl cut_r), (rV_i rfl cut_r), trivial⟩ trivial)⟩
  have q10 := q9
  show PP bb w D pm_313 (255, [(0, .ref 189), (1, .int (i32 (j 1))), (2, .int (i32 (j 2))), (3, .int (i32 (j 3))), (4, .int (i32 (j 4)))], [], (mhp (mO e8 [] []) c, N), 0, 0) (QS _ (some (0, e8)))
  exact P_re0 rfl rfl q10
def rfl_doFirst_197 (v1 : Int) (v3 : Int) (u1 : Int) (u2 : Int) (m : mR) : Option (Int × mR) :=
  if v3 = 0 then
    rfl_doFirst_214 (mO m [] [(164, upI (m.2 164) u1 u2)])
  else
    if m.1 177 = 0 then
      bnd (rf_writePacket v1 (mO m [] [(164, upI (m.2 164) u1 u2)])) fun y13 =>
      rfl_doFirst_214 y13.2
    else
      rfl_doFirst_214 (mO m [] [(164, upI (m.2 164) u1 u2)])
theorem dg_doFirst_197 (w : wX) (c : Nat → Option am_C) (N D : Nat) (bb : Nat) (v1 : Int) (v3 : Int) (u1 : Int) (u2 : Int) (q1 : R32 v1) (q3 : R32 v3) (r1 : R32 u1) (r2 : R32 u2) (m : mR) (hm : Cn m) (j : Nat → Int) : PP bb w D pm_313 (197, [(0, .ref 189), (1, .int (i32 v1)), (2, .int (i32 (j 2))), (3, .int (i32 v3))], [.int (i32 u2), .int (i32 u1), .ref 313], (mhp m c, N), 0, 0) (QS (FR0 c N) (rfl_doFirst_197 v1 v3 u1 u2 m)) := by
  unfold rfl_doFirst_197
  show PP bb w D pm_313 (197, [(0, .ref 189), (1, .int (i32 v1)), (2, .int (i32 (j 2))), (3, .int (i32 v3))], [.int (i32 u2), .int (i32 u1), .ref 313], (mhp (mO m [] []) c, N), 0, 0) _
  refine P_iast2 (a' := [(164, upI (m.2 164) u1 u2)]) 198 164 (m.2 164) rfl rfl rfl r1 rfl rfl ?_
  refine P_ld 199 (.int (i32 v3)) rfl (fun _ => rfl) ?_
  refine P_ifF 214 202 rfl rfl rfl q3 rfl (fun h11 => ?_) (fun h11 => ?_)
  · skip
    refine P_lv (b := [(0, .ref 189), (1, .int (i32 v1)), (2, .int (i32 (j 2))), (3, .int (i32 v3)), (4, .int (i32 0))]) rfl rfl ⟨rfl, rfl, rfl, rfl, trivial⟩ ?_
    exact dg_doFirst_214 w c N D bb (mO m [] [(164, upI (m.2 164) u1 u2)]) (Cn_mO hm trivial ⟨(rE_ui (Cn_a hm 164) rfl r2), trivial⟩) (jk [(1, v1), (2, j 2), (3, v3)])
  · skip
    refine P_gf 206 (.int (i32 (m.1 177))) rfl rfl rfl rfl rfl rfl ?_
    refine P_ifE 214 209 rfl rfl rfl (Cn_i hm 177 rfl) rfl (fun h12 => ?_) (fun h12 => ?_)
    · skip
      refine P_ld 210 (.ref 189) rfl (fun _ => rfl) ?_
      refine P_ld 211 (.int (i32 v1)) rfl (fun _ => rfl) ?_
      refine P_ca0 214 340 [.ref 189, .int (i32 v1)] [] rfl (fun _ => rfl) rfl (D_writePacket w (mO m [] [(164, upI (m.2 164) u1 u2)]) c N D (Cn_mO hm trivial ⟨(rE_ui (Cn_a hm 164) rfl r2), trivial⟩) v1 q1) (fun y13 n15 => ?_)
      refine P_lv (b := [(0, .ref 189), (1, .int (i32 v1)), (2, .int (i32 (j 2))), (3, .int (i32 v3)), (4, .int (i32 0))]) rfl rfl ⟨rfl, rfl, rfl, rfl, trivial⟩ ?_
      exact dg_doFirst_214 w c N D bb y13.2 n15 (jk [(1, v1), (2, j 2), (3, v3)])
    · skip
      refine P_lv (b := [(0, .ref 189), (1, .int (i32 v1)), (2, .int (i32 (j 2))), (3, .int (i32 v3)), (4, .int (i32 0))]) rfl rfl ⟨rfl, rfl, rfl, rfl, trivial⟩ ?_
      exact dg_doFirst_214 w c N D bb (mO m [] [(164, upI (m.2 164) u1 u2)]) (Cn_mO hm trivial ⟨(rE_ui (Cn_a hm 164) rfl r2), trivial⟩) (jk [(1, v1), (2, j 2), (3, v3)])
def rfl_doFirst_172 (v1 : Int) (v3 : Int) (m : mR) : Option (Int × mR) :=
  if v3 = 0 then
    rfl_doFirst_197 v1 v3 v1 2 m
  else
    if m.1 177 = 0 then
      rfl_doFirst_197 v1 v3 v1 0 m
    else
      rfl_doFirst_197 v1 v3 v1 1 m
theorem dg_doFirst_172 (w : wX) (c : Nat → Option am_C) (N D : Nat) (bb : Nat) (v1 : Int) (v3 : Int) (q1 : R32 v1) (q3 : R32 v3) (m : mR) (hm : Cn m) (j : Nat → Int) : PP bb w D pm_313 (172, [(0, .ref 189), (1, .int (i32 v1)), (2, .int (i32 (j 2))), (3, .int (i32 v3))], [], (mhp m c, N), 0, 0) (QS (FR0 c N) (rfl_doFirst_172 v1 v3 m)) := by
  unfold rfl_doFirst_172
  show PP bb w D pm_313 (172, [(0, .ref 189), (1, .int (i32 v1)), (2, .int (i32 (j 2))), (3, .int (i32 v3))], [], (mhp (mO m [] []) c, N), 0, 0) _
  refine P_gf 176 (.ref 313) rfl rfl rfl rfl rfl rfl ?_
  refine P_ld 177 (.int (i32 v1)) rfl (fun _ => rfl) ?_
  refine P_ld 178 (.int (i32 v3)) rfl (fun _ => rfl) ?_
  refine P_ifE 185 181 rfl rfl rfl q3 rfl (fun h16 => ?_) (fun h16 => ?_)
  · skip
    refine P_ld 182 (.int (i32 2)) rfl (fun _ => rfl) ?_
    refine P_goto 197 rfl (fun _ => rfl) ?_
    exact dg_doFirst_197 w c N D bb v1 v3 v1 2 q1 q3 q1 (l32 2 rfl) m hm (jk [(2, j 2)])
  · skip
    refine P_gf 189 (.int (i32 (m.1 177))) rfl rfl rfl rfl rfl rfl ?_
    refine P_ifF 196 192 rfl rfl rfl (Cn_i hm 177 rfl) rfl (fun h17 => ?_) (fun h17 => ?_)
    · skip
      refine P_ld 197 (.int (i32 0)) rfl (fun _ => rfl) ?_
      exact dg_doFirst_197 w c N D bb v1 v3 v1 0 q1 q3 q1 (l32 0 rfl) m hm (jk [(2, j 2)])
    · skip
      refine P_ld 193 (.int (i32 1)) rfl (fun _ => rfl) ?_
      refine P_goto 197 rfl (fun _ => rfl) ?_
      exact dg_doFirst_197 w c N D bb v1 v3 v1 1 q1 q3 q1 (l32 1 rfl) m hm (jk [(2, j 2)])
def rfl_doFirst_162 (v1 : Int) (u0 : Int) (m : mR) : Option (Int × mR) :=
  if u0 = 0 then
    rfl_doFirst_172 v1 u0 m
  else
    bnd (rf_goThrough v1 m) fun y19 =>
    rfl_doFirst_172 v1 u0 y19.2
theorem dg_doFirst_162 (w : wX) (c : Nat → Option am_C) (N D : Nat) (bb : Nat) (v1 : Int) (u0 : Int) (q1 : R32 v1) (r0 : R32 u0) (m : mR) (hm : Cn m) (j : Nat → Int) : PP bb w D pm_313 (162, [(0, .ref 189), (1, .int (i32 v1)), (2, .int (i32 (j 2))), (3, .int (i32 (j 3)))], [.int (i32 u0)], (mhp m c, N), 0, 0) (QS (FR0 c N) (rfl_doFirst_162 v1 u0 m)) := by
  unfold rfl_doFirst_162
  show PP bb w D pm_313 (162, [(0, .ref 189), (1, .int (i32 v1)), (2, .int (i32 (j 2))), (3, .int (i32 (j 3)))], [.int (i32 u0)], (mhp (mO m [] []) c, N), 0, 0) _
  refine P_sto 163 [(3, .int (i32 u0)), (0, .ref 189), (1, .int (i32 v1)), (2, .int (i32 (j 2)))] rfl (fun _ => rfl) ?_
  refine P_ld 164 (.int (i32 u0)) rfl (fun _ => rfl) ?_
  refine P_ifF 172 167 rfl rfl rfl r0 rfl (fun h18 => ?_) (fun h18 => ?_)
  · skip
    refine P_lv (b := [(0, .ref 189), (1, .int (i32 v1)), (2, .int (i32 (j 2))), (3, .int (i32 u0))]) rfl rfl ⟨rfl, rfl, rfl, rfl, trivial⟩ ?_
    exact dg_doFirst_172 w c N D bb v1 u0 q1 r0 m hm (jk [(2, j 2)])
  · skip
    refine P_ld 168 (.ref 189) rfl (fun _ => rfl) ?_
    refine P_ld 169 (.int (i32 v1)) rfl (fun _ => rfl) ?_
    refine P_ca0 172 331 [.ref 189, .int (i32 v1)] [] rfl (fun _ => rfl) rfl (D_goThrough w m c N D hm v1 q1) (fun y19 n21 => ?_)
    refine P_lv (b := [(0, .ref 189), (1, .int (i32 v1)), (2, .int (i32 (j 2))), (3, .int (i32 u0))]) rfl rfl ⟨rfl, rfl, rfl, rfl, trivial⟩ ?_
    exact dg_doFirst_172 w c N D bb v1 u0 q1 r0 y19.2 n21 (jk [(2, j 2)])
def rfl_doFirst_154 (u1 : Int) (u2 : Int) (m : mR) : Option (Int × mR) :=
  rfl_doFirst_214 (mO m [] [(164, upI (m.2 164) u1 u2)])
theorem dg_doFirst_154 (w : wX) (c : Nat → Option am_C) (N D : Nat) (bb : Nat) (u1 : Int) (u2 : Int) (r1 : R32 u1) (r2 : R32 u2) (m : mR) (hm : Cn m) (j : Nat → Int) : PP bb w D pm_313 (154, [(0, .ref 189), (1, .int (i32 (j 1))), (2, .int (i32 (j 2))), (3, .int (i32 (j 3))), (4, .int (i32 (j 4)))], [.int (i32 u2), .int (i32 u1), .ref 313], (mhp m c, N), 0, 0) (QS (FR0 c N) (rfl_doFirst_154 u1 u2 m)) := by
  unfold rfl_doFirst_154
  show PP bb w D pm_313 (154, [(0, .ref 189), (1, .int (i32 (j 1))), (2, .int (i32 (j 2))), (3, .int (i32 (j 3))), (4, .int (i32 (j 4)))], [.int (i32 u2), .int (i32 u1), .ref 313], (mhp (mO m [] []) c, N), 0, 0) _
  refine P_iast2 (a' := [(164, upI (m.2 164) u1 u2)]) 155 164 (m.2 164) rfl rfl rfl r1 rfl rfl ?_
  refine P_goto 214 rfl (fun _ => rfl) ?_
  exact dg_doFirst_214 w c N D bb (mO m [] [(164, upI (m.2 164) u1 u2)]) (Cn_mO hm trivial ⟨(rE_ui (Cn_a hm 164) rfl r2), trivial⟩) (jk [(1, j 1), (2, j 2), (3, j 3), (4, j 4)])
def rfl_doFirst_137 (v1 : Int) (u0 : Int) (m : mR) : Option (Int × mR) :=
  if u0 = 0 then
    rfl_doFirst_154 v1 1 m
  else
    rfl_doFirst_154 v1 0 m
theorem dg_doFirst_137 (w : wX) (c : Nat → Option am_C) (N D : Nat) (bb : Nat) (v1 : Int) (u0 : Int) (q1 : R32 v1) (r0 : R32 u0) (m : mR) (hm : Cn m) (j : Nat → Int) : PP bb w D pm_313 (137, [(0, .ref 189), (1, .int (i32 v1)), (2, .int (i32 (j 2))), (3, .int (i32 (j 3)))], [.int (i32 u0)], (mhp m c, N), 0, 0) (QS (FR0 c N) (rfl_doFirst_137 v1 u0 m)) := by
  unfold rfl_doFirst_137
  show PP bb w D pm_313 (137, [(0, .ref 189), (1, .int (i32 v1)), (2, .int (i32 (j 2))), (3, .int (i32 (j 3)))], [.int (i32 u0)], (mhp (mO m [] []) c, N), 0, 0) _
  refine P_sto 139 [(4, .int (i32 u0)), (0, .ref 189), (1, .int (i32 v1)), (2, .int (i32 (j 2))), (3, .int (i32 (j 3)))] rfl (fun _ => rfl) ?_
  refine P_gf 143 (.ref 313) rfl rfl rfl rfl rfl rfl ?_
  refine P_ld 144 (.int (i32 v1)) rfl (fun _ => rfl) ?_
  refine P_ld 146 (.int (i32 u0)) rfl (fun _ => rfl) ?_
  refine P_ifF 153 149 rfl rfl rfl r0 rfl (fun h22 => ?_) (fun h22 => ?_)
  · skip
    refine P_ld 154 (.int (i32 1)) rfl (fun _ => rfl) ?_
    refine P_lv (b := [(0, .ref 189), (1, .int (i32 v1)), (2, .int (i32 (j 2))), (3, .int (i32 (j 3))), (4, .int (i32 u0))]) rfl rfl ⟨rfl, rfl, rfl, rfl, rfl, trivial⟩ ?_
    exact dg_doFirst_154 w c N D bb v1 1 q1 (l32 1 rfl) m hm (jk [(1, v1), (2, j 2), (3, j 3), (4, u0)])
  · skip
    refine P_ld 150 (.int (i32 0)) rfl (fun _ => rfl) ?_
    refine P_goto 154 rfl (fun _ => rfl) ?_
    refine P_lv (b := [(0, .ref 189), (1, .int (i32 v1)), (2, .int (i32 (j 2))), (3, .int (i32 (j 3))), (4, .int (i32 u0))]) rfl rfl ⟨rfl, rfl, rfl, rfl, rfl, trivial⟩ ?_
    exact dg_doFirst_154 w c N D bb v1 0 q1 (l32 0 rfl) m hm (jk [(1, v1), (2, j 2), (3, j 3), (4, u0)])
def rfl_doFirst_136 (v1 : Int) (m : mR) : Option (Int × mR) :=
  rfl_doFirst_137 v1 0 m
theorem dg_doFirst_136 (w : wX) (c : Nat → Option am_C) (N D : Nat) (bb : Nat) (v1 : Int) (q1 : R32 v1) (m : mR) (hm : Cn m) (j : Nat → Int) : PP bb w D pm_313 (136, [(0, .ref 189), (1, .int (i32 v1)), (2, .int (i32 (j 2))), (3, .int (i32 (j 3)))], [], (mhp m c, N), 0, 0) (QS (FR0 c N) (rfl_doFirst_136 v1 m)) := by
  unfold rfl_doFirst_136
  show PP bb w D pm_313 (136, [(0, .ref 189), (1, .int (i32 v1)), (2, .int (i32 (j 2))), (3, .int (i32 (j 3)))], [], (mhp (mO m [] []) c, N), 0, 0) _
  refine P_ld 137 (.int (i32 0)) rfl (fun _ => rfl) ?_
  exact dg_doFirst_137 w c N D bb v1 0 q1 (l32 0 rfl) m hm (jk [(2, j 2), (3, j 3)])
def rfl_doFirst_132 (v1 : Int) (m : mR) : Option (Int × mR) :=
  rfl_doFirst_137 v1 1 m
theorem dg_doFirst_132 (w : wX) (c : Nat → Option am_C) (N D : Nat) (bb : Nat) (v1 : Int) (q1 : R32 v1) (m : mR) (hm : Cn m) (j : Nat → Int) : PP bb w D pm_313 (132, [(0, .ref 189), (1, .int (i32 v1)), (2, .int (i32 (j 2))), (3, .int (i32 (j 3)))], [], (mhp m c, N), 0, 0) (QS (FR0 c N) (rfl_doFirst_132 v1 m)) := by
  unfold rfl_doFirst_132
  show PP bb w D pm_313 (132, [(0, .ref 189), (1, .int (i32 v1)), (2, .int (i32 (j 2))), (3, .int (i32 (j 3)))], [], (mhp (mO m [] []) c, N), 0, 0) _
  refine P_ld 133 (.int (i32 1)) rfl (fun _ => rfl) ?_
  refine P_goto 137 rfl (fun _ => rfl) ?_
  exact dg_doFirst_137 w c N D bb v1 1 q1 (l32 1 rfl) m hm (jk [(2, j 2), (3, j 3)])
def rfl_doFirst_129 (v1 : Int) (u0 : Int) (m : mR) : Option (Int × mR) :=
  if u0 = 0 then
    rfl_doFirst_136 v1 m
  else
    rfl_doFirst_132 v1 m
theorem dg_doFirst_129 (w : wX) (c : Nat → Option am_C) (N D : Nat) (bb : Nat) (v1 : Int) (u0 : Int) (q1 : R32 v1) (r0 : R32 u0) (m : mR) (hm : Cn m) (j : Nat → Int) : PP bb w D pm_313 (129, [(0, .ref 189), (1, .int (i32 v1)), (2, .int (i32 (j 2))), (3, .int (i32 (j 3)))], [.int (i32 u0)], (mhp m c, N), 0, 0) (QS (FR0 c N) (rfl_doFirst_129 v1 u0 m)) := by
  unfold rfl_doFirst_129
  show PP bb w D pm_313 (129, [(0, .ref 189), (1, .int (i32 v1)), (2, .int (i32 (j 2))), (3, .int (i32 (j 3)))], [.int (i32 u0)], (mhp (mO m [] []) c, N), 0, 0) _
  refine P_ifF 136 132 rfl rfl rfl r0 rfl (fun h23 => ?_) (fun h23 => ?_)
  · skip
    exact dg_doFirst_136 w c N D bb v1 q1 m hm (jk [(2, j 2), (3, j 3)])
  · skip
    exact dg_doFirst_132 w c N D bb v1 q1 m hm (jk [(2, j 2), (3, j 3)])
def rfl_doFirst_118 (v1 : Int) (u0 : Int) (m : mR) : Option (Int × mR) :=
  if u0 = 0 then
    rfl_doFirst_136 v1 m
  else
    rfl_doFirst_132 v1 m
theorem dg_doFirst_118 (w : wX) (c : Nat → Option am_C) (N D : Nat) (bb : Nat) (v1 : Int) (u0 : Int) (q1 : R32 v1) (r0 : R32 u0) (m : mR) (hm : Cn m) (j : Nat → Int) : PP bb w D pm_313 (118, [(0, .ref 189), (1, .int (i32 v1)), (2, .int (i32 (j 2))), (3, .int (i32 (j 3)))], [.int (i32 u0)], (mhp m c, N), 0, 0) (QS (FR0 c N) (rfl_doFirst_118 v1 u0 m)) := by
  unfold rfl_doFirst_118
  show PP bb w D pm_313 (118, [(0, .ref 189), (1, .int (i32 v1)), (2, .int (i32 (j 2))), (3, .int (i32 (j 3)))], [.int (i32 u0)], (mhp (mO m [] []) c, N), 0, 0) _
  refine P_ifF 136 121 rfl rfl rfl r0 rfl (fun h24 => ?_) (fun h24 => ?_)
  · skip
    exact dg_doFirst_136 w c N D bb v1 q1 m hm (jk [(2, j 2), (3, j 3)])
  · skip
    refine P_goto 132 rfl (fun _ => rfl) ?_
    exact dg_doFirst_132 w c N D bb v1 q1 m hm (jk [(2, j 2), (3, j 3)])
def rfl_doFirst_102 (v1 : Int) (u0 : Int) (m : mR) : Option (Int × mR) :=
  if u0 = 0 then
    rfl_doFirst_136 v1 m
  else
    rfl_doFirst_132 v1 m
theorem dg_doFirst_102 (w : wX) (c : Nat → Option am_C) (N D : Nat) (bb : Nat) (v1 : Int) (u0 : Int) (q1 : R32 v1) (r0 : R32 u0) (m : mR) (hm : Cn m) (j : Nat → Int) : PP bb w D pm_313 (102, [(0, .ref 189), (1, .int (i32 v1)), (2, .int (i32 (j 2))), (3, .int (i32 (j 3)))], [.int (i32 u0)], (mhp m c, N), 0, 0) (QS (FR0 c N) (rfl_doFirst_102 v1 u0 m)) := by
  unfold rfl_doFirst_102
  show PP bb w D pm_313 (102, [(0, .ref 189), (1, .int (i32 v1)), (2, .int (i32 (j 2))), (3, .int (i32 (j 3)))], [.int (i32 u0)], (mhp (mO m [] []) c, N), 0, 0) _
  refine P_ifF 136 105 rfl rfl rfl r0 rfl (fun h25 => ?_) (fun h25 => ?_)
  · skip
    exact dg_doFirst_136 w c N D bb v1 q1 m hm (jk [(2, j 2), (3, j 3)])
  · skip
    refine P_goto 132 rfl (fun _ => rfl) ?_
    exact dg_doFirst_132 w c N D bb v1 q1 m hm (jk [(2, j 2), (3, j 3)])
def rfl_doFirst_73 (v1 : Int) (v2 : Int) (m : mR) : Option (Int × mR) :=
  if v2 ≤ 0 then
    bnd (rf_readPacket m) fun y27 =>
    rfl_doFirst_162 v1 y27.1 y27.2
  else
    bnd (rf_areMasks ((m.2 156) 0) m) fun y30 =>
    if y30 = 0 then
      rfl_doFirst_136 v1 m
    else
      if v2 = 1 then
        bnd (rf_entryComes ((m.2 156) 0) m) fun y41 =>
        rfl_doFirst_102 v1 y41.1 y41.2
      else
        if v2 = 2 then
          bnd (rf_entryChanges ((m.2 156) 0) m) fun y38 =>
          rfl_doFirst_118 v1 y38.1 y38.2
        else
          bnd (rf_entryGoes ((m.2 156) 0) m) fun y35 =>
          rfl_doFirst_129 v1 y35.1 y35.2
theorem dg_doFirst_73 (w : wX) (c : Nat → Option am_C) (N D : Nat) (bb : Nat) (v1 : Int) (v2 : Int) (q1 : R32 v1) (q2 : R32 v2) (m : mR) (hm : Cn m) (j : Nat → Int) : PP bb w D pm_313 (73, [(0, .ref 189), (1, .int (i32 v1)), (2, .int (i32 v2)), (3, .int (i32 (j 3)))], [], (mhp m c, N), 0, 0) (QS (FR0 c N) (rfl_doFirst_73 v1 v2 m)) := by
  unfold rfl_doFirst_73
  show PP bb w D pm_313 (73, [(0, .ref 189), (1, .int (i32 v1)), (2, .int (i32 v2)), (3, .int (i32 (j 3)))], [], (mhp (mO m [] []) c, N), 0, 0) _
  refine P_ld 74 (.int (i32 v2)) rfl (fun _ => rfl) ?_
  refine P_ifF 158 77 rfl rfl rfl q2 rfl (fun h26 => ?_) (fun h26 => ?_)
  · skip
    refine P_ld 159 (.ref 189) rfl (fun _ => rfl) ?_
    refine P_ca1 162 325 [.ref 189] [] rfl (fun _ => rfl) rfl (D_readPacket w m c N D hm) (fun y27 h28 n29 => ?_)
    exact dg_doFirst_162 w c N D bb v1 y27.1 q1 h28 y27.2 n29 (jk [(2, v2), (3, j 3)])
  · skip
    refine P_gf 81 (.ref 305) rfl rfl rfl rfl rfl rfl ?_
    refine P_ld 82 (.int (i32 0)) rfl (fun _ => rfl) ?_
    refine P_iald2 83 156 (m.2 156) rfl rfl rfl (l32 0 rfl) rfl ?_
    refine P_sto 84 [(3, .int (i32 ((m.2 156) 0))), (0, .ref 189), (1, .int (i32 v1)), (2, .int (i32 v2))] rfl (fun _ => rfl) ?_
    refine P_ld 85 (.ref 189) rfl (fun _ => rfl) ?_
    refine P_ld 86 (.int (i32 ((m.2 156) 0))) rfl (fun _ => rfl) ?_
    refine P_cp1 89 314 [.ref 189, .int (i32 ((m.2 156) 0))] [] rfl (fun _ => rfl) rfl (D_areMasks w m c N D hm ((m.2 156) 0) (rE_i (Cn_a hm 156) rfl _)) (fun y30 h31 => ?_)
    refine P_ifF 136 92 rfl rfl rfl h31 rfl (fun h32 => ?_) (fun h32 => ?_)
    · skip
      refine P_lv (b := [(0, .ref 189), (1, .int (i32 v1)), (2, .int (i32 v2)), (3, .int (i32 ((m.2 156) 0)))]) rfl rfl ⟨rfl, rfl, rfl, rfl, trivial⟩ ?_
      exact dg_doFirst_136 w c N D bb v1 q1 m hm (jk [(2, v2), (3, (m.2 156) 0)])
    · skip
      refine P_ld 93 (.int (i32 v2)) rfl (fun _ => rfl) ?_
      refine P_ld 94 (.int (i32 1)) rfl (fun _ => rfl) ?_
      refine P_icE 108 97 rfl rfl rfl q2 (l32 1 rfl) rfl (fun h33 => ?_) (fun h33 => ?_)
      · skip
        refine P_ld 98 (.ref 189) rfl (fun _ => rfl) ?_
        refine P_ld 99 (.int (i32 ((m.2 156) 0))) rfl (fun _ => rfl) ?_
        refine P_ca1 102 316 [.ref 189, .int (i32 ((m.2 156) 0))] [] rfl (fun _ => rfl) rfl (D_entryComes w m c N D hm ((m.2 156) 0) (rE_i (Cn_a hm 156) rfl _)) (fun y41 h42 n43 => ?_)
        refine P_lv (b := [(0, .ref 189), (1, .int (i32 v1)), (2, .int (i32 v2)), (3, .int (i32 ((m.2 156) 0)))]) rfl rfl ⟨rfl, rfl, rfl, rfl, trivial⟩ ?_
        exact dg_doFirst_102 w c N D bb v1 y41.1 q1 h42 y41.2 n43 (jk [(2, v2), (3, (m.2 156) 0)])
      · skip
        refine P_ld 109 (.int (i32 v2)) rfl (fun _ => rfl) ?_
        refine P_ld 110 (.int (i32 2)) rfl (fun _ => rfl) ?_
        refine P_icE 124 113 rfl rfl rfl q2 (l32 2 rfl) rfl (fun h34 => ?_) (fun h34 => ?_)
        · skip
          refine P_ld 114 (.ref 189) rfl (fun _ => rfl) ?_
          refine P_ld 115 (.int (i32 ((m.2 156) 0))) rfl (fun _ => rfl) ?_
          refine P_ca1 118 323 [.ref 189, .int (i32 ((m.2 156) 0))] [] rfl (fun _ => rfl) rfl (D_entryChanges w m c N D hm ((m.2 156) 0) (rE_i (Cn_a hm 156) rfl _)) (fun y38 h39 n40 => ?_)
          refine P_lv (b := [(0, .ref 189), (1, .int (i32 v1)), (2, .int (i32 v2)), (3, .int (i32 ((m.2 156) 0)))]) rfl rfl ⟨rfl, rfl, rfl, rfl, trivial⟩ ?_
          exact dg_doFirst_118 w c N D bb v1 y38.1 q1 h39 y38.2 n40 (jk [(2, v2), (3, (m.2 156) 0)])
        · skip
          refine P_ld 125 (.ref 189) rfl (fun _ => rfl) ?_
          refine P_ld 126 (.int (i32 ((m.2 156) 0))) rfl (fun _ => rfl) ?_
          refine P_ca1 129 324 [.ref 189, .int (i32 ((m.2 156) 0))] [] rfl (fun _ => rfl) rfl (D_entryGoes w m c N D hm ((m.2 156) 0) (rE_i (Cn_a hm 156) rfl _)) (fun y35 h36 n37 => ?_)
          refine P_lv (b := [(0, .ref 189), (1, .int (i32 v1)), (2, .int (i32 v2)), (3, .int (i32 ((m.2 156) 0)))]) rfl rfl ⟨rfl, rfl, rfl, rfl, trivial⟩ ?_
          exact dg_doFirst_129 w c N D bb v1 y35.1 q1 h36 y35.2 n37 (jk [(2, v2), (3, (m.2 156) 0)])
def rfb_doFirst_49 (v1 : Int) (v2 : Int) (s : Int × mR) : Option (Sum (Int × mR) (mR)) :=
  if (48 : Int) ≤ s.1 then
    some (.inr s.2)
  else
    some (.inl (cut (s.1 + 1), (mO s.2 [] [(169, upI (s.2.2 169) (cut ((cut (48 * v1)) + s.1)) (-1))])))
theorem dh_doFirst_49 (w : wX) (c : Nat → Option am_C) (N D : Nat) (v1 : Int) (v2 : Int) (q1 : R32 v1) (q2 : R32 v2) (bb : Nat) (Q2 : Sum (Int × mR) (mR) → ag_Re af_T → Prop) (H1 : ∀ s j, cs_doFirst_49 s → PP bb w D pm_313 (hd_doFirst_49 c N v1 v2 s j) (Q2 (.inl s))) (H2 : ∀ x j, cx_doFirst_49 x → PP bb w D pm_313 (ex_doFirst_49 c N v1 v2 x j) (Q2 (.inr x))) (s : Int × mR) (j : Nat → Int) (hs : cs_doFirst_49 s) : PP (bb + 1) w D pm_313 (hd_doFirst_49 c N v1 v2 s j) (QS Q2 (rfb_doFirst_49 v1 v2 s)) := by
  obtain ⟨g3, gm⟩ := hs
  unfold rfb_doFirst_49
  show PP (bb + 1) w D pm_313 (49, [(0, .ref 189), (1, .int (i32 v1)), (2, .int (i32 v2)), (3, .int (i32 s.1))], [], (mhp (mO s.2 [] []) c, N), 0, 0) _
  refine P1_ld 50 (.int (i32 s.1)) rfl (fun _ => rfl) ?_
  refine P_ld 52 (.int (i32 48)) rfl (fun _ => rfl) ?_
  refine P_icF 73 55 rfl rfl rfl g3 (l32 48 rfl) rfl (fun h45 => ?_) (fun h45 => ?_)
  · skip
    refine P_some ?_
    exact H2 s.2 (jk [(3, s.1)]) gm
  · skip
    refine P_gf 59 (.ref 318) rfl rfl rfl rfl rfl rfl ?_
    refine P_ld 61 (.int (i32 48)) rfl (fun _ => rfl) ?_
    refine P_ld 62 (.int (i32 v1)) rfl (fun _ => rfl) ?_
    refine P_op 63 (cut (48 * v1)) _ rfl (fun _ => rfl) o_mul ?_
    refine P_ld 64 (.int (i32 s.1)) rfl (fun _ => rfl) ?_
    refine P_op 65 (cut ((cut (48 * v1)) + s.1)) _ rfl (fun _ => rfl) o_add ?_
    refine P_ld 66 (.int (i32 (-1))) rfl (fun _ => rfl) ?_
    refine P_iast2 (a' := [(169, upI (s.2.2 169) (cut ((cut (48 * v1)) + s.1)) (-1))]) 67 169 (s.2.2 169) rfl rfl rfl cut_r rfl rfl ?_
    refine P_inc 70 [(3, .int (i32 (cut (s.1 + 1)))), (0, .ref 189), (1, .int (i32 v1)), (2, .int (i32 v2))] rfl rfl (by decide) rfl rfl ?_
    refine P_goto 49 rfl (fun _ => rfl) ?_
    refine P_some ?_
    refine P_lv (b := [(0, .ref 189), (1, .int (i32 v1)), (2, .int (i32 v2)), (3, .int (i32 (cut (s.1 + 1))))]) rfl rfl ⟨rfl, rfl, rfl, rfl, trivial⟩ ?_
    exact H1 (cut (s.1 + 1), (mO s.2 [] [(169, upI (s.2.2 169) (cut ((cut (48 * v1)) + s.1)) (-1))])) (jk []) ⟨cut_r, (Cn_mO gm trivial ⟨(rE_ui (Cn_a gm 169) rfl (l32 (-1) rfl)), trivial⟩)⟩
def rf_doFirst (m : mR) : Option (Int × mR) :=
  bnd (whl (rfb_doFirst_49 ((m.1 150).tmod 128) ((m.2 153) 0)) (0, (mO m [] [(163, upI (m.2 163) ((m.1 150).tmod 128) ((m.2 153) 0)), (165, upI (m.2 165) ((m.1 150).tmod 128) (-1)), (166, upI (m.2 166) ((m.1 150).tmod 128) (-1)), (167, upI (m.2 167) ((m.1 150).tmod 128) (m.1 152))]))) (fun e46 : mR =>
    rfl_doFirst_73 ((m.1 150).tmod 128) ((m.2 153) 0) e46)
theorem D_doFirst (w : wX) (m : mR) (c : Nat → Option am_C) (N D : Nat) (hm : Cn m) : PC w D 313 [.ref 189] (mhp m c, N) (QS (FR0 c N) (rf_doFirst m)) := by
  refine Pc_of (fun D bb => ?_) D
  unfold rf_doFirst
  show PP bb w D pm_313 (0, [(0, .ref 189)], [], (mhp (mO m [] []) c, N), 0, 0) _
  refine P_gf 4 (.int (i32 (m.1 150))) rfl rfl rfl rfl rfl rfl ?_
  refine P_ld 7 (.int (i32 128)) rfl (fun _ => rfl) ?_
  refine P_rem 8 rfl rfl (Cn_i hm 150 rfl) (by decide) (by decide) ?_
  refine P_sto 9 [(1, .int (i32 ((m.1 150).tmod 128))), (0, .ref 189)] rfl (fun _ => rfl) ?_
  refine P_gf 13 (.ref 302) rfl rfl rfl rfl rfl rfl ?_
  refine P_ld 14 (.int (i32 0)) rfl (fun _ => rfl) ?_
  refine P_iald2 15 153 (m.2 153) rfl rfl rfl (l32 0 rfl) rfl ?_
  refine P_sto 16 [(2, .int (i32 ((m.2 153) 0))), (1, .int (i32 ((m.1 150).tmod 128))), (0, .ref 189)] rfl (fun _ => rfl) ?_
  refine P_gf 20 (.ref 312) rfl rfl rfl rfl rfl rfl ?_
  refine P_ld 21 (.int (i32 ((m.1 150).tmod 128))) rfl (fun _ => rfl) ?_
  refine P_ld 22 (.int (i32 ((m.2 153) 0))) rfl (fun _ => rfl) ?_
  refine P_iast2 (a' := [(163, upI (m.2 163) ((m.1 150).tmod 128) ((m.2 153) 0))]) 23 163 (m.2 163) rfl rfl rfl (tmod_r (Cn_i hm 150 rfl) (by decide) (by decide)) rfl rfl ?_
  refine P_gf 27 (.ref 316) rfl rfl rfl rfl rfl rfl ?_
  refine P_ld 28 (.int (i32 ((m.1 150).tmod 128))) rfl (fun _ => rfl) ?_
  refine P_gf 32 (.int (i32 (m.1 152))) rfl rfl rfl rfl rfl rfl ?_
  refine P_iast2 (a' := [(163, upI (m.2 163) ((m.1 150).tmod 128) ((m.2 153) 0)), (167, upI (m.2 167) ((m.1 150).tmod 128) (m.1 152))]) 33 167 (m.2 167) rfl rfl rfl (tmod_r (Cn_i hm 150 rfl) (by decide) (by decide)) rfl rfl ?_
  refine P_gf 37 (.ref 314) rfl rfl rfl rfl rfl rfl ?_
  refine P_ld 38 (.int (i32 ((m.1 150).tmod 128))) rfl (fun _ => rfl) ?_
  refine P_ld 39 (.int (i32 (-1))) rfl (fun _ => rfl) ?_
  refine P_iast2 (a' := [(163, upI (m.2 163) ((m.1 150).tmod 128) ((m.2 153) 0)), (165, upI (m.2 165) ((m.1 150).tmod 128) (-1)), (167, upI (m.2 167) ((m.1 150).tmod 128) (m.1 152))]) 40 165 (m.2 165) rfl rfl rfl (tmod_r (Cn_i hm 150 rfl) (by decide) (by decide)) rfl rfl ?_
  refine P_gf 44 (.ref 315) rfl rfl rfl rfl rfl rfl ?_
  refine P_ld 45 (.int (i32 ((m.1 150).tmod 128))) rfl (fun _ => rfl) ?_
  refine P_ld 46 (.int (i32 (-1))) rfl (fun _ => rfl) ?_
  refine P_iast2 (a' := [(163, upI (m.2 163) ((m.1 150).tmod 128) ((m.2 153) 0)), (165, upI (m.2 165) ((m.1 150).tmod 128) (-1)), (166, upI (m.2 166) ((m.1 150).tmod 128) (-1)), (167, upI (m.2 167) ((m.1 150).tmod 128) (m.1 152))]) 47 166 (m.2 166) rfl rfl rfl (tmod_r (Cn_i hm 150 rfl) (by decide) (by decide)) rfl rfl ?_
  refine P_ld 48 (.int (i32 0)) rfl (fun _ => rfl) ?_
  refine P_sto 49 [(3, .int (i32 0)), (2, .int (i32 ((m.2 153) 0))), (1, .int (i32 ((m.1 150).tmod 128))), (0, .ref 189)] rfl (fun _ => rfl) ?_
  refine P_lv (b := [(0, .ref 189), (1, .int (i32 ((m.1 150).tmod 128))), (2, .int (i32 ((m.2 153) 0))), (3, .int (i32 0))]) rfl rfl ⟨rfl, rfl, rfl, rfl, trivial⟩ ?_
  refine P_bnd ?_
  refine P_whl (fun bb Q2 H1 H2 s9 j9 hs9 => dh_doFirst_49 w c N D ((m.1 150).tmod 128) ((m.2 153) 0) (tmod_r (Cn_i hm 150 rfl) (by decide) (by decide)) (rE_i (Cn_a hm 153) rfl _) bb Q2 H1 H2 s9 j9 hs9) bb (fun e46 j q47 => ?_) (0, (mO m [] [(163, upI (m.2 163) ((m.1 150).tmod 128) ((m.2 153) 0)), (165, upI (m.2 165) ((m.1 150).tmod 128) (-1)), (166, upI (m.2 166) ((m.1 150).tmod 128) (-1)), (167, upI (m.2 167) ((m.1 150).tmod 128) (m.1 152))])) (jk []) ⟨(l32 0 rfl), (Cn_mO hm trivial ⟨(rE_ui (Cn_a hm 163) rfl (rE_i (Cn_a hm 153) rfl _)), (rE_ui (Cn_a hm 165) rfl (l32 (-1) rfl)), (rE_ui (Cn_a hm 166) rfl (l32 (-1) rfl)), (rE_ui (Cn_a hm 167) rfl (Cn_i hm 152 rfl)), trivial⟩)⟩
  have q48 := q47
  show PP bb w D pm_313 (73, [(0, .ref 189), (1, .int (i32 ((m.1 150).tmod 128))), (2, .int (i32 ((m.2 153) 0))), (3, .int (i32 (j 3)))], [], (mhp (mO e46 [] []) c, N), 0, 0) (QS _ (rfl_doFirst_73 ((m.1 150).tmod 128) ((m.2 153) 0) e46))
  exact dg_doFirst_73 w c N D bb ((m.1 150).tmod 128) ((m.2 153) 0) (tmod_r (Cn_i hm 150 rfl) (by decide) (by decide)) (rE_i (Cn_a hm 153) rfl _) e46 q48 (jk [(3, j 3)])
def cs_run_46 (s : Int × mR) : Prop := R32 s.1 ∧ Cn s.2
def cx_run_46 : (mR) → Prop := (fun (e : mR) => Cn e)
def hd_run_46 (c : Nat → Option am_C) (N : Nat) (v1 : Int) (v2 : Int) (s : Int × mR) (j : Nat → Int) : ag_St af_T := (46, [(0, .ref 189), (1, .int (i32 v1)), (2, .int (i32 v2)), (3, .int (i32 s.1))], [], (mhp s.2 c, N), 0, 0)
def ex_run_46 (c : Nat → Option am_C) (N : Nat) (v1 : Int) (v2 : Int) : (mR) → (Nat → Int) → ag_St af_T := (fun (e : mR) (j : Nat → Int) => ((124, [(0, .ref 189), (1, .int (i32 (j 1))), (2, .int (i32 v2)), (3, .int (i32 (j 3)))], [], (mhp e c, N), 0, 0) : ag_St af_T))
def rfl_run_124 (v2 : Int) (m : mR) : Option (Int × mR) :=
  some (cut ((m.1 151) - v2), m)
theorem dg_run_124 (w : wX) (c : Nat → Option am_C) (N D : Nat) (bb : Nat) (v2 : Int) (q2 : R32 v2) (m : mR) (hm : Cn m) (j : Nat → Int) : PP bb w D pm_312 (124, [(0, .ref 189), (1, .int (i32 (j 1))), (2, .int (i32 v2)), (3, .int (i32 (j 3)))], [], (mhp m c, N), 0, 0) (QS (FR1 c N) (rfl_run_124 v2 m)) := by
  unfold rfl_run_124
  show PP bb w D pm_312 (124, [(0, .ref 189), (1, .int (i32 (j 1))), (2, .int (i32 v2)), (3, .int (i32 (j 3)))], [], (mhp (mO m [] []) c, N), 0, 0) _
  refine P_gf 128 (.int (i32 (m.1 151))) rfl rfl rfl rfl rfl rfl ?_
  refine P_ld 129 (.int (i32 v2)) rfl (fun _ => rfl) ?_
  refine P_op 130 (cut ((m.1 151) - v2)) _ rfl (fun _ => rfl) o_sub ?_
  exact P_re1 rfl cut_r hm
def rfl_run_108 (v1 : Int) (v2 : Int) (v3 : Int) (m : mR) : Option (Sum (Int × mR) (mR)) :=
  some (.inl (cut (v3 + 1), (mO m [(152, cut ((m.1 152) + 1))] [])))
theorem dg_run_108 (w : wX) (c : Nat → Option am_C) (N D : Nat) (bb : Nat) (v1 : Int) (v2 : Int) (v3 : Int) (q1 : R32 v1) (q2 : R32 v2) (q3 : R32 v3) (m : mR) (hm : Cn m) (j : Nat → Int) (Q2 : Sum (Int × mR) (mR) → ag_Re af_T → Prop) (H1 : ∀ s j, cs_run_46 s → PP bb w D pm_312 (hd_run_46 c N v1 v2 s j) (Q2 (.inl s))) (H2 : ∀ x j, cx_run_46 x → PP bb w D pm_312 (ex_run_46 c N v1 v2 x j) (Q2 (.inr x))) : PP bb w D pm_312 (108, [(0, .ref 189), (1, .int (i32 v1)), (2, .int (i32 v2)), (3, .int (i32 v3))], [], (mhp m c, N), 0, 0) (QS Q2 (rfl_run_108 v1 v2 v3 m)) := by
  unfold rfl_run_108
  show PP bb w D pm_312 (108, [(0, .ref 189), (1, .int (i32 v1)), (2, .int (i32 v2)), (3, .int (i32 v3))], [], (mhp (mO m [] []) c, N), 0, 0) _
  refine P_ld 109 (.ref 189) rfl (fun _ => rfl) ?_
  refine P_ld 110 (.ref 189) rfl (fun _ => rfl) ?_
  refine P_gf1 113 (.int (i32 (m.1 152))) rfl rfl rfl rfl ?_
  refine P_ld 114 (.int (i32 1)) rfl (fun _ => rfl) ?_
  refine P_op 115 (cut ((m.1 152) + 1)) _ rfl (fun _ => rfl) o_add ?_
  refine P_pf (l' := [(152, cut ((m.1 152) + 1))]) 118 (cut ((m.1 152) + 1)) rfl rfl rfl rfl rfl rfl ?_
  refine P_inc 121 [(3, .int (i32 (cut (v3 + 1)))), (0, .ref 189), (1, .int (i32 v1)), (2, .int (i32 v2))] rfl rfl (by decide) rfl rfl ?_
  refine P_goto 46 rfl (fun _ => rfl) ?_
  refine P_some ?_
  refine P_lv (b := [(0, .ref 189), (1, .int (i32 v1)), (2, .int (i32 v2)), (3, .int (i32 (cut (v3 + 1))))]) rfl rfl ⟨rfl, rfl, rfl, rfl, trivial⟩ ?_
  exact H1 (cut (v3 + 1), (mO m [(152, cut ((m.1 152) + 1))] [])) (jk []) ⟨cut_r, (Cn_mO hm ⟨(rV_i rfl cut_r), trivial⟩ trivial)⟩
def rfl_run_97 (v1 : Int) (v2 : Int) (v3 : Int) (m : mR) : Option (Sum (Int × mR) (mR)) :=
  if m.1 149 ≤ 0 then
    rfl_run_108 v1 v2 v3 m
  else
    bnd (rf_doFirst m) fun y3 =>
    rfl_run_108 v1 v2 v3 y3.2
theorem dg_run_97 (w : wX) (c : Nat → Option am_C) (N D : Nat) (bb : Nat) (v1 : Int) (v2 : Int) (v3 : Int) (q1 : R32 v1) (q2 : R32 v2) (q3 : R32 v3) (m : mR) (hm : Cn m) (j : Nat → Int) (Q2 : Sum (Int × mR) (mR) → ag_Re af_T → Prop) (H1 : ∀ s j, cs_run_46 s → PP bb w D pm_312 (hd_run_46 c N v1 v2 s j) (Q2 (.inl s))) (H2 : ∀ x j, cx_run_46 x → PP bb w D pm_312 (ex_run_46 c N v1 v2 x j) (Q2 (.inr x))) : PP bb w D pm_312 (97, [(0, .ref 189), (1, .int (i32 v1)), (2, .int (i32 v2)), (3, .int (i32 v3))], [], (mhp m c, N), 0, 0) (QS Q2 (rfl_run_97 v1 v2 v3 m)) := by
  unfold rfl_run_97
  show PP bb w D pm_312 (97, [(0, .ref 189), (1, .int (i32 v1)), (2, .int (i32 v2)), (3, .int (i32 v3))], [], (mhp (mO m [] []) c, N), 0, 0) _
  refine P_gf 101 (.int (i32 (m.1 149))) rfl rfl rfl rfl rfl rfl ?_
  refine P_ifF 108 104 rfl rfl rfl (Cn_i hm 149 rfl) rfl (fun h2 => ?_) (fun h2 => ?_)
  · skip
    exact dg_run_108 w c N D bb v1 v2 v3 q1 q2 q3 m hm (jk []) Q2 H1 H2
  · skip
    refine P_ld 105 (.ref 189) rfl (fun _ => rfl) ?_
    refine P_ca0 108 313 [.ref 189] [] rfl (fun _ => rfl) rfl (D_doFirst w m c N D hm) (fun y3 n5 => ?_)
    exact dg_run_108 w c N D bb v1 v2 v3 q1 q2 q3 y3.2 n5 (jk []) Q2 H1 H2
def rfb_run_46 (v1 : Int) (v2 : Int) (s : Int × mR) : Option (Sum (Int × mR) (mR)) :=
  if v1 ≤ s.1 then
    some (.inr s.2)
  else
    if s.2.1 150 ≤ s.2.1 151 then
      rfl_run_97 v1 v2 s.1 s.2
    else
      if cut (((s.2.2 167) ((s.2.1 151).tmod 128)) + (s.2.1 129)) = s.2.1 152 then
        rfl_run_97 v1 v2 s.1 (mO s.2 [(151, cut ((s.2.1 151) + 1))] [])
      else
        rfl_run_97 v1 v2 s.1 s.2
theorem dh_run_46 (w : wX) (c : Nat → Option am_C) (N D : Nat) (v1 : Int) (v2 : Int) (q1 : R32 v1) (q2 : R32 v2) (bb : Nat) (Q2 : Sum (Int × mR) (mR) → ag_Re af_T → Prop) (H1 : ∀ s j, cs_run_46 s → PP bb w D pm_312 (hd_run_46 c N v1 v2 s j) (Q2 (.inl s))) (H2 : ∀ x j, cx_run_46 x → PP bb w D pm_312 (ex_run_46 c N v1 v2 x j) (Q2 (.inr x))) (s : Int × mR) (j : Nat → Int) (hs : cs_run_46 s) : PP (bb + 1) w D pm_312 (hd_run_46 c N v1 v2 s j) (QS Q2 (rfb_run_46 v1 v2 s)) := by
  obtain ⟨g3, gm⟩ := hs
  unfold rfb_run_46
  show PP (bb + 1) w D pm_312 (46, [(0, .ref 189), (1, .int (i32 v1)), (2, .int (i32 v2)), (3, .int (i32 s.1))], [], (mhp (mO s.2 [] []) c, N), 0, 0) _
  refine P1_ld 47 (.int (i32 s.1)) rfl (fun _ => rfl) ?_
  refine P_ld 48 (.int (i32 v1)) rfl (fun _ => rfl) ?_
  refine P_icF 124 51 rfl rfl rfl g3 q1 rfl (fun h7 => ?_) (fun h7 => ?_)
  · skip
    refine P_some ?_
    exact H2 s.2 (jk [(1, v1), (3, s.1)]) gm
  · skip
    refine P_gf 55 (.int (i32 (s.2.1 151))) rfl rfl rfl rfl rfl rfl ?_
    refine P_gf 59 (.int (i32 (s.2.1 150))) rfl rfl rfl rfl rfl rfl ?_
    refine P_icF 97 62 rfl rfl rfl (Cn_i gm 151 rfl) (Cn_i gm 150 rfl) rfl (fun h8 => ?_) (fun h8 => ?_)
    · skip
      exact dg_run_97 w c N D bb v1 v2 s.1 q1 q2 g3 s.2 gm (jk []) Q2 H1 H2
    · skip
      refine P_gf 66 (.ref 316) rfl rfl rfl rfl rfl rfl ?_
      refine P_gf 70 (.int (i32 (s.2.1 151))) rfl rfl rfl rfl rfl rfl ?_
      refine P_ld 73 (.int (i32 128)) rfl (fun _ => rfl) ?_
      refine P_rem 74 rfl rfl (Cn_i gm 151 rfl) (by decide) (by decide) ?_
      refine P_iald2 75 167 (s.2.2 167) rfl rfl rfl (tmod_r (Cn_i gm 151 rfl) (by decide) (by decide)) rfl ?_
      refine P_gf 79 (.int (i32 (s.2.1 129))) rfl rfl rfl rfl rfl rfl ?_
      refine P_op 80 (cut (((s.2.2 167) ((s.2.1 151).tmod 128)) + (s.2.1 129))) _ rfl (fun _ => rfl) o_add ?_
      refine P_gf 84 (.int (i32 (s.2.1 152))) rfl rfl rfl rfl rfl rfl ?_
      refine P_icE 97 87 rfl rfl rfl cut_r (Cn_i gm 152 rfl) rfl (fun h9 => ?_) (fun h9 => ?_)
      · skip
        refine P_ld 88 (.ref 189) rfl (fun _ => rfl) ?_
        refine P_ld 89 (.ref 189) rfl (fun _ => rfl) ?_
        refine P_gf1 92 (.int (i32 (s.2.1 151))) rfl rfl rfl rfl ?_
        refine P_ld 93 (.int (i32 1)) rfl (fun _ => rfl) ?_
        refine P_op 94 (cut ((s.2.1 151) + 1)) _ rfl (fun _ => rfl) o_add ?_
        refine P_pf (l' := [(151, cut ((s.2.1 151) + 1))]) 97 (cut ((s.2.1 151) + 1)) rfl rfl rfl rfl rfl rfl ?_
        exact dg_run_97 w c N D bb v1 v2 s.1 q1 q2 g3 (mO s.2 [(151, cut ((s.2.1 151) + 1))] []) (Cn_mO gm ⟨(rV_i rfl cut_r), trivial⟩ trivial) (jk []) Q2 H1 H2
      · skip
        exact dg_run_97 w c N D bb v1 v2 s.1 q1 q2 g3 s.2 gm (jk []) Q2 H1 H2
def rfl_run_27 (v1 : Int) (u1 : Int) (m : mR) : Option (Int × mR) :=
  if u1 ≤ 0 then
    bnd (whl (rfb_run_46 v1 (m.1 151)) (0, (mO m [(1, u1)] []))) (fun e11 : mR =>
      rfl_run_124 (m.1 151) e11)
  else
    some (0, (mO m [(1, u1)] []))
theorem dg_run_27 (w : wX) (c : Nat → Option am_C) (N D : Nat) (bb : Nat) (v1 : Int) (u1 : Int) (q1 : R32 v1) (r1 : R32 u1) (m : mR) (hm : Cn m) (j : Nat → Int) : PP bb w D pm_312 (27, [(0, .ref 189), (1, .int (i32 v1))], [.int (i32 u1), .ref 189], (mhp m c, N), 0, 0) (QS (FR1 c N) (rfl_run_27 v1 u1 m)) := by
  unfold rfl_run_27
  show PP bb w D pm_312 (27, [(0, .ref 189), (1, .int (i32 v1))], [.int (i32 u1), .ref 189], (mhp (mO m [] []) c, N), 0, 0) _
  refine P_pf (l' := [(1, u1)]) 30 u1 rfl rfl rfl rfl rfl rfl ?_
  refine P_gf 34 (.int (i32 u1)) rfl rfl rfl rfl rfl rfl ?_
  refine P_ifF 39 37 rfl rfl rfl r1 rfl (fun h10 => ?_) (fun h10 => ?_)
  · skip
    refine P_gf 43 (.int (i32 (m.1 151))) rfl rfl rfl rfl rfl rfl ?_
    refine P_sto 44 [(2, .int (i32 (m.1 151))), (0, .ref 189), (1, .int (i32 v1))] rfl (fun _ => rfl) ?_
    refine P_ld 45 (.int (i32 0)) rfl (fun _ => rfl) ?_
    refine P_sto 46 [(3, .int (i32 0)), (2, .int (i32 (m.1 151))), (0, .ref 189), (1, .int (i32 v1))] rfl (fun _ => rfl) ?_
    refine P_lv (b := [(0, .ref 189), (1, .int (i32 v1)), (2, .int (i32 (m.1 151))), (3, .int (i32 0))]) rfl rfl ⟨rfl, rfl, rfl, rfl, trivial⟩ ?_
    refine P_bnd ?_
    refine P_whl (fun bb Q2 H1 H2 s9 j9 hs9 => dh_run_46 w c N D v1 (m.1 151) q1 (Cn_i hm 151 rfl) bb Q2 H1 H2 s9 j9 hs9) bb (fun e11 j q12 => ?_) (0, (mO m [(1, u1)] [])) (jk []) ⟨(l32 0 rfl), (Cn_mO hm ⟨(rV_i rfl r1), trivial⟩ trivial)⟩
    have q13 := q12
    show PP bb w D pm_312 (124, [(0, .ref 189), (1, .int (i32 (j 1))), (2, .int (i32 (m.1 151))), (3, .int (i32 (j 3)))], [], (mhp (mO e11 [] []) c, N), 0, 0) (QS _ (rfl_run_124 (m.1 151) e11))
    exact dg_run_124 w c N D bb (m.1 151) (Cn_i hm 151 rfl) e11 q13 (jk [(1, j 1), (3, j 3)])
  · skip
    refine P_ld 38 (.int (i32 0)) rfl (fun _ => rfl) ?_
    exact P_re1 rfl (l32 0 rfl) (Cn_mO hm ⟨(rV_i rfl r1), trivial⟩ trivial)
def rfl_run_22 (v1 : Int) (m : mR) : Option (Int × mR) :=
  rfl_run_27 v1 2 m
theorem dg_run_22 (w : wX) (c : Nat → Option am_C) (N D : Nat) (bb : Nat) (v1 : Int) (q1 : R32 v1) (m : mR) (hm : Cn m) (j : Nat → Int) : PP bb w D pm_312 (22, [(0, .ref 189), (1, .int (i32 v1))], [.ref 189], (mhp m c, N), 0, 0) (QS (FR1 c N) (rfl_run_22 v1 m)) := by
  unfold rfl_run_22
  show PP bb w D pm_312 (22, [(0, .ref 189), (1, .int (i32 v1))], [.ref 189], (mhp (mO m [] []) c, N), 0, 0) _
  refine P_ld 23 (.int (i32 2)) rfl (fun _ => rfl) ?_
  refine P_goto 27 rfl (fun _ => rfl) ?_
  exact dg_run_27 w c N D bb v1 2 q1 (l32 2 rfl) m hm (jk [])
def rf_run (v1 : Int) (m : mR) : Option (Int × mR) :=
  if m.1 128 = 0 then
    rfl_run_27 v1 1 m
  else
    if v1 < 0 then
      rfl_run_22 v1 m
    else
      if v1 ≤ 100 then
        rfl_run_27 v1 0 m
      else
        rfl_run_22 v1 m
theorem D_run (w : wX) (m : mR) (c : Nat → Option am_C) (N D : Nat) (hm : Cn m) (v1 : Int) (q1 : R32 v1) : PC w D 312 [.ref 189, .int (i32 v1)] (mhp m c, N) (QS (FR1 c N) (rf_run v1 m)) := by
  refine Pc_of (fun D bb => ?_) D
  unfold rf_run
  show PP bb w D pm_312 (0, [(0, .ref 189), (1, .int (i32 v1))], [], (mhp (mO m [] []) c, N), 0, 0) _
  refine P_ld 1 (.ref 189) rfl (fun _ => rfl) ?_
  refine P_gf 5 (.int (i32 (m.1 128))) rfl rfl rfl rfl rfl rfl ?_
  refine P_ifE 12 8 rfl rfl rfl (Cn_i hm 128 rfl) rfl (fun h14 => ?_) (fun h14 => ?_)
  · skip
    refine P_ld 9 (.int (i32 1)) rfl (fun _ => rfl) ?_
    refine P_goto 27 rfl (fun _ => rfl) ?_
    exact dg_run_27 w c N D bb v1 1 q1 (l32 1 rfl) m hm (jk [])
  · skip
    refine P_ld 13 (.int (i32 v1)) rfl (fun _ => rfl) ?_
    refine P_ifF 22 16 rfl rfl rfl q1 rfl (fun h15 => ?_) (fun h15 => ?_)
    · skip
      exact dg_run_22 w c N D bb v1 q1 m hm (jk [])
    · skip
      refine P_ld 17 (.int (i32 v1)) rfl (fun _ => rfl) ?_
      refine P_ld 19 (.int (i32 100)) rfl (fun _ => rfl) ?_
      refine P_icF 26 22 rfl rfl rfl q1 (l32 100 rfl) rfl (fun h16 => ?_) (fun h16 => ?_)
      · skip
        refine P_ld 27 (.int (i32 0)) rfl (fun _ => rfl) ?_
        exact dg_run_27 w c N D bb v1 0 q1 (l32 0 rfl) m hm (jk [])
      · skip
        exact dg_run_22 w c N D bb v1 q1 m hm (jk [])
def rfl_isOut_28 (u0 : Int) (m : mR) : Option Int :=
  some u0
theorem dg_isOut_28 (w : wX) (c : Nat → Option am_C) (N D : Nat) (bb : Nat) (u0 : Int) (r0 : R32 u0) (m : mR) (hm : Cn m) (j : Nat → Int) : PP bb w D pm_343 (28, [(0, .ref 189), (1, .int (i32 (j 1)))], [.int (i32 u0)], (mhp m c, N), 0, 0) (QS (FP1 (mhp m c, N)) (rfl_isOut_28 u0 m)) := by
  unfold rfl_isOut_28
  show PP bb w D pm_343 (28, [(0, .ref 189), (1, .int (i32 (j 1)))], [.int (i32 u0)], (mhp (mO m [] []) c, N), 0, 0) _
  exact P_rp1 rfl r0
def rf_isOut (v1 : Int) (m : mR) : Option Int :=
  if v1 < 0 then
    rfl_isOut_28 0 m
  else
    if m.1 151 ≤ v1 then
      rfl_isOut_28 0 m
    else
      if v1 < cut ((m.1 151) - 64) then
        rfl_isOut_28 0 m
      else
        rfl_isOut_28 1 m
theorem D_isOut (w : wX) (m : mR) (c : Nat → Option am_C) (N D : Nat) (hm : Cn m) (v1 : Int) (q1 : R32 v1) : PC w D 343 [.ref 189, .int (i32 v1)] (mhp m c, N) (QS (FP1 (mhp m c, N)) (rf_isOut v1 m)) := by
  refine Pc_of (fun D bb => ?_) D
  unfold rf_isOut
  show PP bb w D pm_343 (0, [(0, .ref 189), (1, .int (i32 v1))], [], (mhp (mO m [] []) c, N), 0, 0) _
  refine P_ld 1 (.int (i32 v1)) rfl (fun _ => rfl) ?_
  refine P_ifF 27 4 rfl rfl rfl q1 rfl (fun h1 => ?_) (fun h1 => ?_)
  · skip
    refine P_ld 28 (.int (i32 0)) rfl (fun _ => rfl) ?_
    exact dg_isOut_28 w c N D bb 0 (l32 0 rfl) m hm (jk [(1, v1)])
  · skip
    refine P_ld 5 (.int (i32 v1)) rfl (fun _ => rfl) ?_
    refine P_gf 9 (.int (i32 (m.1 151))) rfl rfl rfl rfl rfl rfl ?_
    refine P_icF 27 12 rfl rfl rfl q1 (Cn_i hm 151 rfl) rfl (fun h2 => ?_) (fun h2 => ?_)
    · skip
      refine P_ld 28 (.int (i32 0)) rfl (fun _ => rfl) ?_
      exact dg_isOut_28 w c N D bb 0 (l32 0 rfl) m hm (jk [(1, v1)])
    · skip
      refine P_ld 13 (.int (i32 v1)) rfl (fun _ => rfl) ?_
      refine P_gf 17 (.int (i32 (m.1 151))) rfl rfl rfl rfl rfl rfl ?_
      refine P_ld 19 (.int (i32 64)) rfl (fun _ => rfl) ?_
      refine P_op 20 (cut ((m.1 151) - 64)) _ rfl (fun _ => rfl) o_sub ?_
      refine P_icF 27 23 rfl rfl rfl q1 cut_r rfl (fun h3 => ?_) (fun h3 => ?_)
      · skip
        refine P_ld 28 (.int (i32 0)) rfl (fun _ => rfl) ?_
        exact dg_isOut_28 w c N D bb 0 (l32 0 rfl) m hm (jk [(1, v1)])
      · skip
        refine P_ld 24 (.int (i32 1)) rfl (fun _ => rfl) ?_
        refine P_goto 28 rfl (fun _ => rfl) ?_
        exact dg_isOut_28 w c N D bb 1 (l32 1 rfl) m hm (jk [(1, v1)])
def rf_out (v1 : Int) (v2 : Int) (m : mR) : Option (Int × mR) :=
  bnd (rf_isOut v1 (mO m [(1, 0)] [])) fun y1 =>
  if y1 = 0 then
    some ((-1), (mO m [(1, 0)] []))
  else
    if v2 = 0 then
      some ((m.2 163) (v1.tmod 128), (mO m [(1, 0)] []))
    else
      if v2 = 1 then
        some ((m.2 164) (v1.tmod 128), (mO m [(1, 0)] []))
      else
        if v2 = 2 then
          some ((m.2 165) (v1.tmod 128), (mO m [(1, 0)] []))
        else
          if v2 = 3 then
            some ((m.2 166) (v1.tmod 128), (mO m [(1, 0)] []))
          else
            if v2 = 4 then
              some (cut (((m.2 167) (v1.tmod 128)) + (m.1 129)), (mO m [(1, 0)] []))
            else
              some ((-1), (mO m [(1, 0)] []))
theorem D_out (w : wX) (m : mR) (c : Nat → Option am_C) (N D : Nat) (hm : Cn m) (v1 : Int) (v2 : Int) (q1 : R32 v1) (q2 : R32 v2) : PC w D 342 [.ref 189, .int (i32 v1), .int (i32 v2)] (mhp m c, N) (QS (FR1 c N) (rf_out v1 v2 m)) := by
  refine Pc_of (fun D bb => ?_) D
  unfold rf_out
  show PP bb w D pm_342 (0, [(0, .ref 189), (1, .int (i32 v1)), (2, .int (i32 v2))], [], (mhp (mO m [] []) c, N), 0, 0) _
  refine P_ld 1 (.ref 189) rfl (fun _ => rfl) ?_
  refine P_ld 2 (.int (i32 0)) rfl (fun _ => rfl) ?_
  refine P_pf (l' := [(1, 0)]) 5 0 rfl rfl rfl rfl rfl rfl ?_
  refine P_ld 6 (.ref 189) rfl (fun _ => rfl) ?_
  refine P_ld 7 (.int (i32 v1)) rfl (fun _ => rfl) ?_
  refine P_cp1 10 343 [.ref 189, .int (i32 v1)] [] rfl (fun _ => rfl) rfl (D_isOut w (mO m [(1, 0)] []) c N D (Cn_mO hm ⟨(rV_i rfl (l32 0 rfl)), trivial⟩ trivial) v1 q1) (fun y1 h2 => ?_)
  refine P_ifE 15 13 rfl rfl rfl h2 rfl (fun h3 => ?_) (fun h3 => ?_)
  · skip
    refine P_ld 14 (.int (i32 (-1))) rfl (fun _ => rfl) ?_
    exact P_re1 rfl (l32 (-1) rfl) (Cn_mO hm ⟨(rV_i rfl (l32 0 rfl)), trivial⟩ trivial)
  · skip
    refine P_ld 16 (.int (i32 v1)) rfl (fun _ => rfl) ?_
    refine P_ld 19 (.int (i32 128)) rfl (fun _ => rfl) ?_
    refine P_rem 20 rfl rfl q1 (by decide) (by decide) ?_
    refine P_sto 21 [(3, .int (i32 (v1.tmod 128))), (0, .ref 189), (1, .int (i32 v1)), (2, .int (i32 v2))] rfl (fun _ => rfl) ?_
    refine P_ld 22 (.int (i32 v2)) rfl (fun _ => rfl) ?_
    refine P_cs (fun h4 => ?_) (fun h4 => ?_)
    · skip
      refine P_cast 0 h4 ?_
      refine P_pop 56 rfl (fun _ => rfl) ?_
      refine P_gf 60 (.ref 312) rfl rfl rfl rfl rfl rfl ?_
      refine P_ld 61 (.int (i32 (v1.tmod 128))) rfl (fun _ => rfl) ?_
      refine P_iald2 62 163 (m.2 163) rfl rfl rfl (tmod_r q1 (by decide) (by decide)) rfl ?_
      exact P_re1 rfl (rE_i (Cn_a hm 163) rfl _) (Cn_mO hm ⟨(rV_i rfl (l32 0 rfl)), trivial⟩ trivial)
    · skip
      refine P_cs (fun h5 => ?_) (fun h5 => ?_)
      · skip
        refine P_cast 1 h5 ?_
        refine P_pop 63 rfl (fun _ => rfl) ?_
        refine P_gf 67 (.ref 313) rfl rfl rfl rfl rfl rfl ?_
        refine P_ld 68 (.int (i32 (v1.tmod 128))) rfl (fun _ => rfl) ?_
        refine P_iald2 69 164 (m.2 164) rfl rfl rfl (tmod_r q1 (by decide) (by decide)) rfl ?_
        exact P_re1 rfl (rE_i (Cn_a hm 164) rfl _) (Cn_mO hm ⟨(rV_i rfl (l32 0 rfl)), trivial⟩ trivial)
      · skip
        refine P_cs (fun h6 => ?_) (fun h6 => ?_)
        · skip
          refine P_cast 2 h6 ?_
          refine P_pop 70 rfl (fun _ => rfl) ?_
          refine P_gf 74 (.ref 314) rfl rfl rfl rfl rfl rfl ?_
          refine P_ld 75 (.int (i32 (v1.tmod 128))) rfl (fun _ => rfl) ?_
          refine P_iald2 76 165 (m.2 165) rfl rfl rfl (tmod_r q1 (by decide) (by decide)) rfl ?_
          exact P_re1 rfl (rE_i (Cn_a hm 165) rfl _) (Cn_mO hm ⟨(rV_i rfl (l32 0 rfl)), trivial⟩ trivial)
        · skip
          refine P_cs (fun h7 => ?_) (fun h7 => ?_)
          · skip
            refine P_cast 3 h7 ?_
            refine P_pop 77 rfl (fun _ => rfl) ?_
            refine P_gf 81 (.ref 315) rfl rfl rfl rfl rfl rfl ?_
            refine P_ld 82 (.int (i32 (v1.tmod 128))) rfl (fun _ => rfl) ?_
            refine P_iald2 83 166 (m.2 166) rfl rfl rfl (tmod_r q1 (by decide) (by decide)) rfl ?_
            exact P_re1 rfl (rE_i (Cn_a hm 166) rfl _) (Cn_mO hm ⟨(rV_i rfl (l32 0 rfl)), trivial⟩ trivial)
          · skip
            refine P_cs (fun h8 => ?_) (fun h8 => ?_)
            · skip
              refine P_cast 4 h8 ?_
              refine P_pop 84 rfl (fun _ => rfl) ?_
              refine P_gf 88 (.ref 316) rfl rfl rfl rfl rfl rfl ?_
              refine P_ld 89 (.int (i32 (v1.tmod 128))) rfl (fun _ => rfl) ?_
              refine P_iald2 90 167 (m.2 167) rfl rfl rfl (tmod_r q1 (by decide) (by decide)) rfl ?_
              refine P_gf 94 (.int (i32 (m.1 129))) rfl rfl rfl rfl rfl rfl ?_
              refine P_op 95 (cut (((m.2 167) (v1.tmod 128)) + (m.1 129))) _ rfl (fun _ => rfl) o_add ?_
              exact P_re1 rfl cut_r (Cn_mO hm ⟨(rV_i rfl (l32 0 rfl)), trivial⟩ trivial)
            · skip
              refine P_tsd 96 rfl rfl q2 (by omega) ?_
              refine P_ld 97 (.int (i32 (-1))) rfl (fun _ => rfl) ?_
              exact P_re1 rfl (l32 (-1) rfl) (Cn_mO hm ⟨(rV_i rfl (l32 0 rfl)), trivial⟩ trivial)
def rfl_did_56 (u0 : Int) (m : mR) : Option (Int × mR) :=
  some (u0, m)
theorem dg_did_56 (w : wX) (c : Nat → Option am_C) (N D : Nat) (bb : Nat) (u0 : Int) (r0 : R32 u0) (m : mR) (hm : Cn m) (j : Nat → Int) : PP bb w D pm_345 (56, [(0, .ref 189), (1, .int (i32 (j 1))), (2, .int (i32 (j 2)))], [.int (i32 u0)], (mhp m c, N), 0, 0) (QS (FR1 c N) (rfl_did_56 u0 m)) := by
  unfold rfl_did_56
  show PP bb w D pm_345 (56, [(0, .ref 189), (1, .int (i32 (j 1))), (2, .int (i32 (j 2)))], [.int (i32 u0)], (mhp (mO m [] []) c, N), 0, 0) _
  exact P_re1 rfl r0 hm
def rf_did (v1 : Int) (v2 : Int) (m : mR) : Option (Int × mR) :=
  bnd (rf_isOut v1 (mO m [(1, 0)] [])) fun y1 =>
  if y1 = 0 then
    rfl_did_56 (-1) (mO m [(1, 0)] [])
  else
    bnd (rf_in v2 (m.1 27)) fun y4 =>
    if y4 = 0 then
      rfl_did_56 (-1) (mO m [(1, 0)] [])
    else
      if (m.2 163) (v1.tmod 128) = 0 then
        rfl_did_56 ((m.2 169) (cut ((cut (48 * (v1.tmod 128))) + v2))) (mO m [(1, 0)] [])
      else
        rfl_did_56 (-1) (mO m [(1, 0)] [])
theorem D_did (w : wX) (m : mR) (c : Nat → Option am_C) (N D : Nat) (hm : Cn m) (v1 : Int) (v2 : Int) (q1 : R32 v1) (q2 : R32 v2) : PC w D 345 [.ref 189, .int (i32 v1), .int (i32 v2)] (mhp m c, N) (QS (FR1 c N) (rf_did v1 v2 m)) := by
  refine Pc_of (fun D bb => ?_) D
  unfold rf_did
  show PP bb w D pm_345 (0, [(0, .ref 189), (1, .int (i32 v1)), (2, .int (i32 v2))], [], (mhp (mO m [] []) c, N), 0, 0) _
  refine P_ld 1 (.ref 189) rfl (fun _ => rfl) ?_
  refine P_ld 2 (.int (i32 0)) rfl (fun _ => rfl) ?_
  refine P_pf (l' := [(1, 0)]) 5 0 rfl rfl rfl rfl rfl rfl ?_
  refine P_ld 6 (.ref 189) rfl (fun _ => rfl) ?_
  refine P_ld 7 (.int (i32 v1)) rfl (fun _ => rfl) ?_
  refine P_cp1 10 343 [.ref 189, .int (i32 v1)] [] rfl (fun _ => rfl) rfl (D_isOut w (mO m [(1, 0)] []) c N D (Cn_mO hm ⟨(rV_i rfl (l32 0 rfl)), trivial⟩ trivial) v1 q1) (fun y1 h2 => ?_)
  refine P_ifF 55 13 rfl rfl rfl h2 rfl (fun h3 => ?_) (fun h3 => ?_)
  · skip
    refine P_ld 56 (.int (i32 (-1))) rfl (fun _ => rfl) ?_
    exact dg_did_56 w c N D bb (-1) (l32 (-1) rfl) (mO m [(1, 0)] []) (Cn_mO hm ⟨(rV_i rfl (l32 0 rfl)), trivial⟩ trivial) (jk [(1, v1), (2, v2)])
  · skip
    refine P_ld 14 (.int (i32 v2)) rfl (fun _ => rfl) ?_
    refine P_gf 18 (.int (i32 (m.1 27))) rfl rfl rfl rfl rfl rfl ?_
    refine P_cp1 21 305 [.int (i32 v2), .int (i32 (m.1 27))] [] rfl (fun _ => rfl) rfl (D_in w _ D v2 (m.1 27) q2 (Cn_i hm 27 rfl)) (fun y4 h5 => ?_)
    refine P_ifF 55 24 rfl rfl rfl h5 rfl (fun h6 => ?_) (fun h6 => ?_)
    · skip
      refine P_ld 56 (.int (i32 (-1))) rfl (fun _ => rfl) ?_
      exact dg_did_56 w c N D bb (-1) (l32 (-1) rfl) (mO m [(1, 0)] []) (Cn_mO hm ⟨(rV_i rfl (l32 0 rfl)), trivial⟩ trivial) (jk [(1, v1), (2, v2)])
    · skip
      refine P_gf 28 (.ref 312) rfl rfl rfl rfl rfl rfl ?_
      refine P_ld 29 (.int (i32 v1)) rfl (fun _ => rfl) ?_
      refine P_ld 32 (.int (i32 128)) rfl (fun _ => rfl) ?_
      refine P_rem 33 rfl rfl q1 (by decide) (by decide) ?_
      refine P_iald2 34 163 (m.2 163) rfl rfl rfl (tmod_r q1 (by decide) (by decide)) rfl ?_
      refine P_ifE 55 37 rfl rfl rfl (rE_i (Cn_a hm 163) rfl _) rfl (fun h7 => ?_) (fun h7 => ?_)
      · skip
        refine P_gf 41 (.ref 318) rfl rfl rfl rfl rfl rfl ?_
        refine P_ld 43 (.int (i32 48)) rfl (fun _ => rfl) ?_
        refine P_ld 44 (.int (i32 v1)) rfl (fun _ => rfl) ?_
        refine P_ld 47 (.int (i32 128)) rfl (fun _ => rfl) ?_
        refine P_rem 48 rfl rfl q1 (by decide) (by decide) ?_
        refine P_op 49 (cut (48 * (v1.tmod 128))) _ rfl (fun _ => rfl) o_mul ?_
        refine P_ld 50 (.int (i32 v2)) rfl (fun _ => rfl) ?_
        refine P_op 51 (cut ((cut (48 * (v1.tmod 128))) + v2)) _ rfl (fun _ => rfl) o_add ?_
        refine P_iald2 52 169 (m.2 169) rfl rfl rfl cut_r rfl ?_
        refine P_goto 56 rfl (fun _ => rfl) ?_
        exact dg_did_56 w c N D bb ((m.2 169) (cut ((cut (48 * (v1.tmod 128))) + v2))) (rE_i (Cn_a hm 169) rfl _) (mO m [(1, 0)] []) (Cn_mO hm ⟨(rV_i rfl (l32 0 rfl)), trivial⟩ trivial) (jk [(1, v1), (2, v2)])
      · skip
        refine P_ld 56 (.int (i32 (-1))) rfl (fun _ => rfl) ?_
        exact dg_did_56 w c N D bb (-1) (l32 (-1) rfl) (mO m [(1, 0)] []) (Cn_mO hm ⟨(rV_i rfl (l32 0 rfl)), trivial⟩ trivial) (jk [(1, v1), (2, v2)])
def rfl_word_74 (u0 : Int) (m : mR) : Option (Int × mR) :=
  some (u0, m)
theorem dg_word_74 (w : wX) (c : Nat → Option am_C) (N D : Nat) (bb : Nat) (u0 : Int) (r0 : R64 u0) (m : mR) (hm : Cn m) (j : Nat → Int) : PP bb w D pm_346 (74, [(0, .ref 189), (1, .int (i32 (j 1))), (2, .int (i32 (j 2)))], [.long (i64 u0)], (mhp m c, N), 0, 0) (QS (FR2 c N) (rfl_word_74 u0 m)) := by
  unfold rfl_word_74
  show PP bb w D pm_346 (74, [(0, .ref 189), (1, .int (i32 (j 1))), (2, .int (i32 (j 2)))], [.long (i64 u0)], (mhp (mO m [] []) c, N), 0, 0) _
  exact P_re2 rfl rfl r0 hm
def rfl_word_73 (m : mR) : Option (Int × mR) :=
  rfl_word_74 0 m
theorem dg_word_73 (w : wX) (c : Nat → Option am_C) (N D : Nat) (bb : Nat) (m : mR) (hm : Cn m) (j : Nat → Int) : PP bb w D pm_346 (73, [(0, .ref 189), (1, .int (i32 (j 1))), (2, .int (i32 (j 2)))], [], (mhp m c, N), 0, 0) (QS (FR2 c N) (rfl_word_73 m)) := by
  unfold rfl_word_73
  show PP bb w D pm_346 (73, [(0, .ref 189), (1, .int (i32 (j 1))), (2, .int (i32 (j 2)))], [], (mhp (mO m [] []) c, N), 0, 0) _
  refine P_ld 74 (.long (i64 0)) rfl (fun _ => rfl) ?_
  exact dg_word_74 w c N D bb 0 (l64 0 rfl) m hm (jk [(1, j 1), (2, j 2)])
def rfl_word_17 (v1 : Int) (v2 : Int) (u1 : Int) (m : mR) : Option (Int × mR) :=
  if u1 = 0 then
    if m.1 127 = 0 then
      rfl_word_73 (mO m [(1, u1)] [])
    else
      bnd (rf_in v1 (m.1 22)) fun y3 =>
      if y3 = 0 then
        rfl_word_73 (mO m [(1, u1)] [])
      else
        if v2 < 0 then
          rfl_word_73 (mO m [(1, u1)] [])
        else
          if (m.2 93) v1 ≤ v2 then
            rfl_word_73 (mO m [(1, u1)] [])
          else
            rfl_word_74 ((m.2 138) (cut ((cut (64 * v1)) + v2))) (mO m [(1, u1)] [])
  else
    rfl_word_73 (mO m [(1, u1)] [])
theorem dg_word_17 (w : wX) (c : Nat → Option am_C) (N D : Nat) (bb : Nat) (v1 : Int) (v2 : Int) (u1 : Int) (q1 : R32 v1) (q2 : R32 v2) (r1 : R32 u1) (m : mR) (hm : Cn m) (j : Nat → Int) : PP bb w D pm_346 (17, [(0, .ref 189), (1, .int (i32 v1)), (2, .int (i32 v2))], [.int (i32 u1), .ref 189], (mhp m c, N), 0, 0) (QS (FR2 c N) (rfl_word_17 v1 v2 u1 m)) := by
  unfold rfl_word_17
  show PP bb w D pm_346 (17, [(0, .ref 189), (1, .int (i32 v1)), (2, .int (i32 v2))], [.int (i32 u1), .ref 189], (mhp (mO m [] []) c, N), 0, 0) _
  refine P_pf (l' := [(1, u1)]) 20 u1 rfl rfl rfl rfl rfl rfl ?_
  refine P_gf 24 (.int (i32 u1)) rfl rfl rfl rfl rfl rfl ?_
  refine P_ifE 73 27 rfl rfl rfl r1 rfl (fun h1 => ?_) (fun h1 => ?_)
  · skip
    refine P_gf 31 (.int (i32 (m.1 127))) rfl rfl rfl rfl rfl rfl ?_
    refine P_ifF 73 34 rfl rfl rfl (Cn_i hm 127 rfl) rfl (fun h2 => ?_) (fun h2 => ?_)
    · skip
      exact dg_word_73 w c N D bb (mO m [(1, u1)] []) (Cn_mO hm ⟨(rV_i rfl r1), trivial⟩ trivial) (jk [(1, v1), (2, v2)])
    · skip
      refine P_ld 35 (.int (i32 v1)) rfl (fun _ => rfl) ?_
      refine P_gf 39 (.int (i32 (m.1 22))) rfl rfl rfl rfl rfl rfl ?_
      refine P_cp1 42 305 [.int (i32 v1), .int (i32 (m.1 22))] [] rfl (fun _ => rfl) rfl (D_in w _ D v1 (m.1 22) q1 (Cn_i hm 22 rfl)) (fun y3 h4 => ?_)
      refine P_ifF 73 45 rfl rfl rfl h4 rfl (fun h5 => ?_) (fun h5 => ?_)
      · skip
        exact dg_word_73 w c N D bb (mO m [(1, u1)] []) (Cn_mO hm ⟨(rV_i rfl r1), trivial⟩ trivial) (jk [(1, v1), (2, v2)])
      · skip
        refine P_ld 46 (.int (i32 v2)) rfl (fun _ => rfl) ?_
        refine P_ifF 73 49 rfl rfl rfl q2 rfl (fun h6 => ?_) (fun h6 => ?_)
        · skip
          exact dg_word_73 w c N D bb (mO m [(1, u1)] []) (Cn_mO hm ⟨(rV_i rfl r1), trivial⟩ trivial) (jk [(1, v1), (2, v2)])
        · skip
          refine P_ld 50 (.int (i32 v2)) rfl (fun _ => rfl) ?_
          refine P_gf 54 (.ref 255) rfl rfl rfl rfl rfl rfl ?_
          refine P_ld 55 (.int (i32 v1)) rfl (fun _ => rfl) ?_
          refine P_iald2 56 93 (m.2 93) rfl rfl rfl q1 rfl ?_
          refine P_icF 73 59 rfl rfl rfl q2 (rE_i (Cn_a hm 93) rfl _) rfl (fun h7 => ?_) (fun h7 => ?_)
          · skip
            exact dg_word_73 w c N D bb (mO m [(1, u1)] []) (Cn_mO hm ⟨(rV_i rfl r1), trivial⟩ trivial) (jk [(1, v1), (2, v2)])
          · skip
            refine P_gf 63 (.ref 292) rfl rfl rfl rfl rfl rfl ?_
            refine P_ld 65 (.int (i32 64)) rfl (fun _ => rfl) ?_
            refine P_ld 66 (.int (i32 v1)) rfl (fun _ => rfl) ?_
            refine P_op 67 (cut (64 * v1)) _ rfl (fun _ => rfl) o_mul ?_
            refine P_ld 68 (.int (i32 v2)) rfl (fun _ => rfl) ?_
            refine P_op 69 (cut ((cut (64 * v1)) + v2)) _ rfl (fun _ => rfl) o_add ?_
            refine P_lald2 70 138 (m.2 138) rfl rfl rfl cut_r rfl ?_
            refine P_goto 74 rfl (fun _ => rfl) ?_
            exact dg_word_74 w c N D bb ((m.2 138) (cut ((cut (64 * v1)) + v2))) (rE_l (Cn_a hm 138) rfl _) (mO m [(1, u1)] []) (Cn_mO hm ⟨(rV_i rfl r1), trivial⟩ trivial) (jk [(1, v1), (2, v2)])
  · skip
    exact dg_word_73 w c N D bb (mO m [(1, u1)] []) (Cn_mO hm ⟨(rV_i rfl r1), trivial⟩ trivial) (jk [(1, v1), (2, v2)])
def rf_word (v1 : Int) (v2 : Int) (m : mR) : Option (Int × mR) :=
  if m.1 150 ≤ m.1 151 then
    rfl_word_17 v1 v2 0 m
  else
    rfl_word_17 v1 v2 1 m
theorem D_word (w : wX) (m : mR) (c : Nat → Option am_C) (N D : Nat) (hm : Cn m) (v1 : Int) (v2 : Int) (q1 : R32 v1) (q2 : R32 v2) : PC w D 346 [.ref 189, .int (i32 v1), .int (i32 v2)] (mhp m c, N) (QS (FR2 c N) (rf_word v1 v2 m)) := by
  refine Pc_of (fun D bb => ?_) D
  unfold rf_word
  show PP bb w D pm_346 (0, [(0, .ref 189), (1, .int (i32 v1)), (2, .int (i32 v2))], [], (mhp (mO m [] []) c, N), 0, 0) _
  refine P_ld 1 (.ref 189) rfl (fun _ => rfl) ?_
  refine P_gf 5 (.int (i32 (m.1 151))) rfl rfl rfl rfl rfl rfl ?_
  refine P_gf 9 (.int (i32 (m.1 150))) rfl rfl rfl rfl rfl rfl ?_
  refine P_icF 16 12 rfl rfl rfl (Cn_i hm 151 rfl) (Cn_i hm 150 rfl) rfl (fun h8 => ?_) (fun h8 => ?_)
  · skip
    refine P_ld 17 (.int (i32 0)) rfl (fun _ => rfl) ?_
    exact dg_word_17 w c N D bb v1 v2 0 q1 q2 (l32 0 rfl) m hm (jk [])
  · skip
    refine P_ld 13 (.int (i32 1)) rfl (fun _ => rfl) ?_
    refine P_goto 17 rfl (fun _ => rfl) ?_
    exact dg_word_17 w c N D bb v1 v2 1 q1 q2 (l32 1 rfl) m hm (jk [])
def rfl_entries_76 (u0 : Int) (m : mR) : Option (Int × mR) :=
  some (u0, m)
theorem dg_entries_76 (w : wX) (c : Nat → Option am_C) (N D : Nat) (bb : Nat) (u0 : Int) (r0 : R32 u0) (m : mR) (hm : Cn m) (j : Nat → Int) : PP bb w D pm_347 (76, [(0, .ref 189), (1, .int (i32 (j 1))), (2, .int (i32 (j 2)))], [.int (i32 u0)], (mhp m c, N), 0, 0) (QS (FR1 c N) (rfl_entries_76 u0 m)) := by
  unfold rfl_entries_76
  show PP bb w D pm_347 (76, [(0, .ref 189), (1, .int (i32 (j 1))), (2, .int (i32 (j 2)))], [.int (i32 u0)], (mhp (mO m [] []) c, N), 0, 0) _
  exact P_re1 rfl r0 hm
def rfl_entries_17 (v1 : Int) (v2 : Int) (u1 : Int) (m : mR) : Option (Int × mR) :=
  if u1 ≤ 0 then
    if m.1 127 = 0 then
      some ((-1), (mO m [(1, u1)] []))
    else
      bnd (rf_in v1 (m.1 26)) fun y3 =>
      if y3 = 0 then
        some ((-1), (mO m [(1, u1)] []))
      else
        if v2 = 0 then
          rfl_entries_76 ((m.2 139) v1) (mO m [(1, u1)] [])
        else
          if v2 = 1 then
            bnd (rf_above v1 (mO m [(1, u1)] [])) fun y8 =>
            rfl_entries_76 y8.1 y8.2
          else
            rfl_entries_76 (-1) (mO m [(1, u1)] [])
  else
    some (0, (mO m [(1, u1)] []))
theorem dg_entries_17 (w : wX) (c : Nat → Option am_C) (N D : Nat) (bb : Nat) (v1 : Int) (v2 : Int) (u1 : Int) (q1 : R32 v1) (q2 : R32 v2) (r1 : R32 u1) (m : mR) (hm : Cn m) (j : Nat → Int) : PP bb w D pm_347 (17, [(0, .ref 189), (1, .int (i32 v1)), (2, .int (i32 v2))], [.int (i32 u1), .ref 189], (mhp m c, N), 0, 0) (QS (FR1 c N) (rfl_entries_17 v1 v2 u1 m)) := by
  unfold rfl_entries_17
  show PP bb w D pm_347 (17, [(0, .ref 189), (1, .int (i32 v1)), (2, .int (i32 v2))], [.int (i32 u1), .ref 189], (mhp (mO m [] []) c, N), 0, 0) _
  refine P_pf (l' := [(1, u1)]) 20 u1 rfl rfl rfl rfl rfl rfl ?_
  refine P_gf 24 (.int (i32 u1)) rfl rfl rfl rfl rfl rfl ?_
  refine P_ifF 29 27 rfl rfl rfl r1 rfl (fun h1 => ?_) (fun h1 => ?_)
  · skip
    refine P_gf 33 (.int (i32 (m.1 127))) rfl rfl rfl rfl rfl rfl ?_
    refine P_ifF 47 36 rfl rfl rfl (Cn_i hm 127 rfl) rfl (fun h2 => ?_) (fun h2 => ?_)
    · skip
      refine P_ld 48 (.int (i32 (-1))) rfl (fun _ => rfl) ?_
      exact P_re1 rfl (l32 (-1) rfl) (Cn_mO hm ⟨(rV_i rfl r1), trivial⟩ trivial)
    · skip
      refine P_ld 37 (.int (i32 v1)) rfl (fun _ => rfl) ?_
      refine P_gf 41 (.int (i32 (m.1 26))) rfl rfl rfl rfl rfl rfl ?_
      refine P_cp1 44 305 [.int (i32 v1), .int (i32 (m.1 26))] [] rfl (fun _ => rfl) rfl (D_in w _ D v1 (m.1 26) q1 (Cn_i hm 26 rfl)) (fun y3 h4 => ?_)
      refine P_ifE 49 47 rfl rfl rfl h4 rfl (fun h5 => ?_) (fun h5 => ?_)
      · skip
        refine P_ld 48 (.int (i32 (-1))) rfl (fun _ => rfl) ?_
        exact P_re1 rfl (l32 (-1) rfl) (Cn_mO hm ⟨(rV_i rfl r1), trivial⟩ trivial)
      · skip
        refine P_ld 50 (.int (i32 v2)) rfl (fun _ => rfl) ?_
        refine P_ifE 62 53 rfl rfl rfl q2 rfl (fun h6 => ?_) (fun h6 => ?_)
        · skip
          refine P_gf 57 (.ref 293) rfl rfl rfl rfl rfl rfl ?_
          refine P_ld 58 (.int (i32 v1)) rfl (fun _ => rfl) ?_
          refine P_iald2 59 139 (m.2 139) rfl rfl rfl q1 rfl ?_
          refine P_goto 76 rfl (fun _ => rfl) ?_
          exact dg_entries_76 w c N D bb ((m.2 139) v1) (rE_i (Cn_a hm 139) rfl _) (mO m [(1, u1)] []) (Cn_mO hm ⟨(rV_i rfl r1), trivial⟩ trivial) (jk [(1, v1), (2, v2)])
        · skip
          refine P_ld 63 (.int (i32 v2)) rfl (fun _ => rfl) ?_
          refine P_ld 64 (.int (i32 1)) rfl (fun _ => rfl) ?_
          refine P_icE 75 67 rfl rfl rfl q2 (l32 1 rfl) rfl (fun h7 => ?_) (fun h7 => ?_)
          · skip
            refine P_ld 68 (.ref 189) rfl (fun _ => rfl) ?_
            refine P_ld 69 (.int (i32 v1)) rfl (fun _ => rfl) ?_
            refine P_ca1 72 321 [.ref 189, .int (i32 v1)] [] rfl (fun _ => rfl) rfl (D_above w (mO m [(1, u1)] []) c N D (Cn_mO hm ⟨(rV_i rfl r1), trivial⟩ trivial) v1 q1) (fun y8 h9 n10 => ?_)
            refine P_goto 76 rfl (fun _ => rfl) ?_
            exact dg_entries_76 w c N D bb y8.1 h9 y8.2 n10 (jk [(1, v1), (2, v2)])
          · skip
            refine P_ld 76 (.int (i32 (-1))) rfl (fun _ => rfl) ?_
            exact dg_entries_76 w c N D bb (-1) (l32 (-1) rfl) (mO m [(1, u1)] []) (Cn_mO hm ⟨(rV_i rfl r1), trivial⟩ trivial) (jk [(1, v1), (2, v2)])
  · skip
    refine P_ld 28 (.int (i32 0)) rfl (fun _ => rfl) ?_
    exact P_re1 rfl (l32 0 rfl) (Cn_mO hm ⟨(rV_i rfl r1), trivial⟩ trivial)
def rf_entries (v1 : Int) (v2 : Int) (m : mR) : Option (Int × mR) :=
  if m.1 150 ≤ m.1 151 then
    rfl_entries_17 v1 v2 0 m
  else
    rfl_entries_17 v1 v2 1 m
theorem D_entries (w : wX) (m : mR) (c : Nat → Option am_C) (N D : Nat) (hm : Cn m) (v1 : Int) (v2 : Int) (q1 : R32 v1) (q2 : R32 v2) : PC w D 347 [.ref 189, .int (i32 v1), .int (i32 v2)] (mhp m c, N) (QS (FR1 c N) (rf_entries v1 v2 m)) := by
  refine Pc_of (fun D bb => ?_) D
  unfold rf_entries
  show PP bb w D pm_347 (0, [(0, .ref 189), (1, .int (i32 v1)), (2, .int (i32 v2))], [], (mhp (mO m [] []) c, N), 0, 0) _
  refine P_ld 1 (.ref 189) rfl (fun _ => rfl) ?_
  refine P_gf 5 (.int (i32 (m.1 151))) rfl rfl rfl rfl rfl rfl ?_
  refine P_gf 9 (.int (i32 (m.1 150))) rfl rfl rfl rfl rfl rfl ?_
  refine P_icF 16 12 rfl rfl rfl (Cn_i hm 151 rfl) (Cn_i hm 150 rfl) rfl (fun h11 => ?_) (fun h11 => ?_)
  · skip
    refine P_ld 17 (.int (i32 0)) rfl (fun _ => rfl) ?_
    exact dg_entries_17 w c N D bb v1 v2 0 q1 q2 (l32 0 rfl) m hm (jk [])
  · skip
    refine P_ld 13 (.int (i32 1)) rfl (fun _ => rfl) ?_
    refine P_goto 17 rfl (fun _ => rfl) ?_
    exact dg_entries_17 w c N D bb v1 v2 1 q1 q2 (l32 1 rfl) m hm (jk [])
def rf_thrown (m : mR) : Option Int :=
  some (m.1 1)
theorem D_thrown (w : wX) (m : mR) (c : Nat → Option am_C) (N D : Nat) (hm : Cn m) : PC w D 207 [.ref 189] (mhp m c, N) (QS (FP1 (mhp m c, N)) (rf_thrown m)) := by
  refine Pc_of (fun D bb => ?_) D
  unfold rf_thrown
  show PP bb w D pm_207 (0, [(0, .ref 189)], [], (mhp (mO m [] []) c, N), 0, 0) _
  refine P_gf 4 (.int (i32 (m.1 1))) rfl rfl rfl rfl rfl rfl ?_
  exact P_rp1 rfl (Cn_i hm 1 rfl)
def rfl_byteAt2_51 (u0 : Int) (m : mR) : Option (Int × mR) :=
  some (u0, m)
theorem dg_byteAt2_51 (w : wX) (c : Nat → Option am_C) (N D : Nat) (bb : Nat) (u0 : Int) (r0 : R32 u0) (m : mR) (hm : Cn m) (j : Nat → Int) : PP bb w D pm_344 (51, [(0, .ref 189), (1, .int (i32 (j 1))), (2, .int (i32 (j 2)))], [.int (i32 u0)], (mhp m c, N), 0, 0) (QS (FR1 c N) (rfl_byteAt2_51 u0 m)) := by
  unfold rfl_byteAt2_51
  show PP bb w D pm_344 (51, [(0, .ref 189), (1, .int (i32 (j 1))), (2, .int (i32 (j 2)))], [.int (i32 u0)], (mhp (mO m [] []) c, N), 0, 0) _
  exact P_re1 rfl r0 hm
def rf_byteAt2 (v1 : Int) (v2 : Int) (m : mR) : Option (Int × mR) :=
  bnd (rf_isOut v1 (mO m [(1, 0)] [])) fun y1 =>
  if y1 = 0 then
    rfl_byteAt2_51 (-1) (mO m [(1, 0)] [])
  else
    if v2 < 0 then
      rfl_byteAt2_51 (-1) (mO m [(1, 0)] [])
    else
      if (m.2 166) (v1.tmod 128) ≤ v2 then
        rfl_byteAt2_51 (-1) (mO m [(1, 0)] [])
      else
        rfl_byteAt2_51 ((m.2 168) (cut ((cut (896 * (v1.tmod 128))) + v2))) (mO m [(1, 0)] [])
theorem D_byteAt2 (w : wX) (m : mR) (c : Nat → Option am_C) (N D : Nat) (hm : Cn m) (v1 : Int) (v2 : Int) (q1 : R32 v1) (q2 : R32 v2) : PC w D 344 [.ref 189, .int (i32 v1), .int (i32 v2)] (mhp m c, N) (QS (FR1 c N) (rf_byteAt2 v1 v2 m)) := by
  refine Pc_of (fun D bb => ?_) D
  unfold rf_byteAt2
  show PP bb w D pm_344 (0, [(0, .ref 189), (1, .int (i32 v1)), (2, .int (i32 v2))], [], (mhp (mO m [] []) c, N), 0, 0) _
  refine P_ld 1 (.ref 189) rfl (fun _ => rfl) ?_
  refine P_ld 2 (.int (i32 0)) rfl (fun _ => rfl) ?_
  refine P_pf (l' := [(1, 0)]) 5 0 rfl rfl rfl rfl rfl rfl ?_
  refine P_ld 6 (.ref 189) rfl (fun _ => rfl) ?_
  refine P_ld 7 (.int (i32 v1)) rfl (fun _ => rfl) ?_
  refine P_cp1 10 343 [.ref 189, .int (i32 v1)] [] rfl (fun _ => rfl) rfl (D_isOut w (mO m [(1, 0)] []) c N D (Cn_mO hm ⟨(rV_i rfl (l32 0 rfl)), trivial⟩ trivial) v1 q1) (fun y1 h2 => ?_)
  refine P_ifF 50 13 rfl rfl rfl h2 rfl (fun h3 => ?_) (fun h3 => ?_)
  · skip
    refine P_ld 51 (.int (i32 (-1))) rfl (fun _ => rfl) ?_
    exact dg_byteAt2_51 w c N D bb (-1) (l32 (-1) rfl) (mO m [(1, 0)] []) (Cn_mO hm ⟨(rV_i rfl (l32 0 rfl)), trivial⟩ trivial) (jk [(1, v1), (2, v2)])
  · skip
    refine P_ld 14 (.int (i32 v2)) rfl (fun _ => rfl) ?_
    refine P_ifF 50 17 rfl rfl rfl q2 rfl (fun h4 => ?_) (fun h4 => ?_)
    · skip
      refine P_ld 51 (.int (i32 (-1))) rfl (fun _ => rfl) ?_
      exact dg_byteAt2_51 w c N D bb (-1) (l32 (-1) rfl) (mO m [(1, 0)] []) (Cn_mO hm ⟨(rV_i rfl (l32 0 rfl)), trivial⟩ trivial) (jk [(1, v1), (2, v2)])
    · skip
      refine P_ld 18 (.int (i32 v2)) rfl (fun _ => rfl) ?_
      refine P_gf 22 (.ref 315) rfl rfl rfl rfl rfl rfl ?_
      refine P_ld 23 (.int (i32 v1)) rfl (fun _ => rfl) ?_
      refine P_ld 26 (.int (i32 128)) rfl (fun _ => rfl) ?_
      refine P_rem 27 rfl rfl q1 (by decide) (by decide) ?_
      refine P_iald2 28 166 (m.2 166) rfl rfl rfl (tmod_r q1 (by decide) (by decide)) rfl ?_
      refine P_icF 50 31 rfl rfl rfl q2 (rE_i (Cn_a hm 166) rfl _) rfl (fun h5 => ?_) (fun h5 => ?_)
      · skip
        refine P_ld 51 (.int (i32 (-1))) rfl (fun _ => rfl) ?_
        exact dg_byteAt2_51 w c N D bb (-1) (l32 (-1) rfl) (mO m [(1, 0)] []) (Cn_mO hm ⟨(rV_i rfl (l32 0 rfl)), trivial⟩ trivial) (jk [(1, v1), (2, v2)])
      · skip
        refine P_gf 35 (.ref 317) rfl rfl rfl rfl rfl rfl ?_
        refine P_ld 38 (.int (i32 896)) rfl (fun _ => rfl) ?_
        refine P_ld 39 (.int (i32 v1)) rfl (fun _ => rfl) ?_
        refine P_ld 42 (.int (i32 128)) rfl (fun _ => rfl) ?_
        refine P_rem 43 rfl rfl q1 (by decide) (by decide) ?_
        refine P_op 44 (cut (896 * (v1.tmod 128))) _ rfl (fun _ => rfl) o_mul ?_
        refine P_ld 45 (.int (i32 v2)) rfl (fun _ => rfl) ?_
        refine P_op 46 (cut ((cut (896 * (v1.tmod 128))) + v2)) _ rfl (fun _ => rfl) o_add ?_
        refine P_iald2 47 168 (m.2 168) rfl rfl rfl cut_r rfl ?_
        refine P_goto 51 rfl (fun _ => rfl) ?_
        exact dg_byteAt2_51 w c N D bb ((m.2 168) (cut ((cut (896 * (v1.tmod 128))) + v2))) (rE_i (Cn_a hm 168) rfl _) (mO m [(1, 0)] []) (Cn_mO hm ⟨(rV_i rfl (l32 0 rfl)), trivial⟩ trivial) (jk [(1, v1), (2, v2)])
end X55BH
