noncomputable section X26H
def cs_takeState_249 (s : mR) : Prop := Cn s
def cx_takeState_249 : (mR) → Prop := (fun (e : mR) => Cn e)
def hd_takeState_249 (c : Nat → Option am_C) (N : Nat) (v3 : Int) (s : mR) (j : Nat → Int) : ag_St af_T := (249, [(0, .ref 189), (1, .int (i32 (j 1))), (2, .int (i32 (j 2))), (3, .int (i32 v3))], [], (mhp s c, N), 0, 0)
def ex_takeState_249 (c : Nat → Option am_C) (N : Nat) (v3 : Int) : (mR) → (Nat → Int) → ag_St af_T := (fun (e : mR) (j : Nat → Int) => ((274, [(0, .ref 189), (1, .int (i32 (j 1))), (2, .int (i32 (j 2))), (3, .int (i32 v3))], [], (mhp e c, N), 0, 0) : ag_St af_T))
def rfl_takeState_337 (m : mR) : Option (Int × mR) :=
  bnd (rf_need 125 m) fun y2 =>
  some (0, y2.2)
theorem dg_takeState_337 (w : wX) (c : Nat → Option am_C) (N D : Nat) (bb : Nat) (m : mR) (hm : Cn m) (j : Nat → Int) : PP bb w D pm_240 (337, [(0, .ref 189), (1, .int (i32 (j 1))), (2, .int (i32 (j 2))), (3, .int (i32 (j 3)))], [], (mhp m c, N), 0, 0) (QS (FR0 c N) (rfl_takeState_337 m)) := by
  unfold rfl_takeState_337
  show PP bb w D pm_240 (337, [(0, .ref 189), (1, .int (i32 (j 1))), (2, .int (i32 (j 2))), (3, .int (i32 (j 3)))], [], (mhp (mO m [] []) c, N), 0, 0) _
  refine P_ld 338 (.ref 189) rfl (fun _ => rfl) ?_
  refine P_ld 340 (.int (i32 125)) rfl (fun _ => rfl) ?_
  refine P_ca0 343 232 [.ref 189, .int (i32 125)] [] rfl (fun _ => rfl) rfl (D_need w m c N D hm 125 (l32 125 rfl)) (fun y2 n4 => ?_)
  exact P_re0 rfl rfl n4
def rfl_takeState_305 (u1 : Int) (u2 : Int) (m : mR) : Option (Int × mR) :=
  bnd (rf_need 59 (mO m [] [(44, upI (m.2 44) u1 u2)])) fun y5 =>
  rfl_takeState_337 y5.2
theorem dg_takeState_305 (w : wX) (c : Nat → Option am_C) (N D : Nat) (bb : Nat) (u1 : Int) (u2 : Int) (r1 : R32 u1) (r2 : R32 u2) (m : mR) (hm : Cn m) (j : Nat → Int) : PP bb w D pm_240 (305, [(0, .ref 189), (1, .int (i32 (j 1))), (2, .int (i32 (j 2))), (3, .int (i32 (j 3)))], [.int (i32 u2), .int (i32 u1), .ref 214], (mhp m c, N), 0, 0) (QS (FR0 c N) (rfl_takeState_305 u1 u2 m)) := by
  unfold rfl_takeState_305
  show PP bb w D pm_240 (305, [(0, .ref 189), (1, .int (i32 (j 1))), (2, .int (i32 (j 2))), (3, .int (i32 (j 3)))], [.int (i32 u2), .int (i32 u1), .ref 214], (mhp (mO m [] []) c, N), 0, 0) _
  refine P_iast2 (a' := [(44, upI (m.2 44) u1 u2)]) 306 44 (m.2 44) rfl rfl rfl r1 rfl rfl ?_
  refine P_ld 307 (.ref 189) rfl (fun _ => rfl) ?_
  refine P_ld 309 (.int (i32 59)) rfl (fun _ => rfl) ?_
  refine P_ca0 312 232 [.ref 189, .int (i32 59)] [] rfl (fun _ => rfl) rfl (D_need w (mO m [] [(44, upI (m.2 44) u1 u2)]) c N D (Cn_mO hm trivial ⟨(rE_ui (Cn_a hm 44) rfl r2), trivial⟩) 59 (l32 59 rfl)) (fun y5 n7 => ?_)
  refine P_goto 337 rfl (fun _ => rfl) ?_
  exact dg_takeState_337 w c N D bb y5.2 n7 (jk [(1, j 1), (2, j 2), (3, j 3)])
def rfl_takeState_296 (v3 : Int) (m : mR) : Option (Int × mR) :=
  bnd (rf_stateHere m) fun y8 =>
  rfl_takeState_305 v3 y8.1 y8.2
theorem dg_takeState_296 (w : wX) (c : Nat → Option am_C) (N D : Nat) (bb : Nat) (v3 : Int) (q3 : R32 v3) (m : mR) (hm : Cn m) (j : Nat → Int) : PP bb w D pm_240 (296, [(0, .ref 189), (1, .int (i32 (j 1))), (2, .int (i32 (j 2))), (3, .int (i32 v3))], [], (mhp m c, N), 0, 0) (QS (FR0 c N) (rfl_takeState_296 v3 m)) := by
  unfold rfl_takeState_296
  show PP bb w D pm_240 (296, [(0, .ref 189), (1, .int (i32 (j 1))), (2, .int (i32 (j 2))), (3, .int (i32 v3))], [], (mhp (mO m [] []) c, N), 0, 0) _
  refine P_gf 300 (.ref 214) rfl rfl rfl rfl rfl rfl ?_
  refine P_ld 301 (.int (i32 v3)) rfl (fun _ => rfl) ?_
  refine P_ld 302 (.ref 189) rfl (fun _ => rfl) ?_
  refine P_ca1 305 242 [.ref 189] [.int (i32 v3), .ref 214] rfl (fun _ => rfl) rfl (D_stateHere w m c N D hm) (fun y8 h9 n10 => ?_)
  exact dg_takeState_305 w c N D bb v3 y8.1 q3 h9 y8.2 n10 (jk [(1, j 1), (2, j 2), (3, v3)])
def rfl_takeState_274 (v3 : Int) (m : mR) : Option (Int × mR) :=
  if m.1 10 ≤ 0 then
    if m.1 7 = 306 then
      bnd (rf_next m) fun y20 =>
      rfl_takeState_296 v3 y20.2
    else
      if m.1 7 = 307 then
        bnd (rf_takeSelect v3 m) fun y17 =>
        rfl_takeState_337 y17.2
      else
        bnd (rf_bad m) fun y14 =>
        rfl_takeState_337 y14.2
  else
    some (0, m)
theorem dg_takeState_274 (w : wX) (c : Nat → Option am_C) (N D : Nat) (bb : Nat) (v3 : Int) (q3 : R32 v3) (m : mR) (hm : Cn m) (j : Nat → Int) : PP bb w D pm_240 (274, [(0, .ref 189), (1, .int (i32 (j 1))), (2, .int (i32 (j 2))), (3, .int (i32 v3))], [], (mhp m c, N), 0, 0) (QS (FR0 c N) (rfl_takeState_274 v3 m)) := by
  unfold rfl_takeState_274
  show PP bb w D pm_240 (274, [(0, .ref 189), (1, .int (i32 (j 1))), (2, .int (i32 (j 2))), (3, .int (i32 v3))], [], (mhp (mO m [] []) c, N), 0, 0) _
  refine P_gf 278 (.int (i32 (m.1 10))) rfl rfl rfl rfl rfl rfl ?_
  refine P_ifF 282 281 rfl rfl rfl (Cn_i hm 10 rfl) rfl (fun h11 => ?_) (fun h11 => ?_)
  · skip
    refine P_gf 286 (.int (i32 (m.1 7))) rfl rfl rfl rfl rfl rfl ?_
    refine P_ld 289 (.int (i32 306)) rfl (fun _ => rfl) ?_
    refine P_icE 315 292 rfl rfl rfl (Cn_i hm 7 rfl) (l32 306 rfl) rfl (fun h12 => ?_) (fun h12 => ?_)
    · skip
      refine P_ld 293 (.ref 189) rfl (fun _ => rfl) ?_
      refine P_ca0 296 212 [.ref 189] [] rfl (fun _ => rfl) rfl (D_next w m c N D hm) (fun y20 n22 => ?_)
      exact dg_takeState_296 w c N D bb v3 q3 y20.2 n22 (jk [(1, j 1), (2, j 2)])
    · skip
      refine P_gf 319 (.int (i32 (m.1 7))) rfl rfl rfl rfl rfl rfl ?_
      refine P_ld 322 (.int (i32 307)) rfl (fun _ => rfl) ?_
      refine P_icE 333 325 rfl rfl rfl (Cn_i hm 7 rfl) (l32 307 rfl) rfl (fun h13 => ?_) (fun h13 => ?_)
      · skip
        refine P_ld 326 (.ref 189) rfl (fun _ => rfl) ?_
        refine P_ld 327 (.int (i32 v3)) rfl (fun _ => rfl) ?_
        refine P_ca0 330 243 [.ref 189, .int (i32 v3)] [] rfl (fun _ => rfl) rfl (D_takeSelect w m c N D hm v3 q3) (fun y17 n19 => ?_)
        refine P_goto 337 rfl (fun _ => rfl) ?_
        exact dg_takeState_337 w c N D bb y17.2 n19 (jk [(1, j 1), (2, j 2), (3, v3)])
      · skip
        refine P_ld 334 (.ref 189) rfl (fun _ => rfl) ?_
        refine P_ca0 337 226 [.ref 189] [] rfl (fun _ => rfl) rfl (D_bad w m c N D hm) (fun y14 n16 => ?_)
        exact dg_takeState_337 w c N D bb y14.2 n16 (jk [(1, j 1), (2, j 2), (3, v3)])
  · skip
    exact P_re0 rfl rfl hm
def rfb_takeState_249 (v3 : Int) (s : mR) : Option (Sum (mR) (mR)) :=
  if s.1 10 = 0 then
    if s.1 7 = 305 then
      bnd (rf_takeExtract v3 s) fun y26 =>
      some (.inl y26.2)
    else
      some (.inr s)
  else
    some (.inr s)
theorem dh_takeState_249 (w : wX) (c : Nat → Option am_C) (N D : Nat) (v3 : Int) (q3 : R32 v3) (bb : Nat) (Q2 : Sum (mR) (mR) → ag_Re af_T → Prop) (H1 : ∀ s j, cs_takeState_249 s → PP bb w D pm_240 (hd_takeState_249 c N v3 s j) (Q2 (.inl s))) (H2 : ∀ x j, cx_takeState_249 x → PP bb w D pm_240 (ex_takeState_249 c N v3 x j) (Q2 (.inr x))) (s : mR) (j : Nat → Int) (hs : cs_takeState_249 s) : PP (bb + 1) w D pm_240 (hd_takeState_249 c N v3 s j) (QS Q2 (rfb_takeState_249 v3 s)) := by
  have gm := hs
  unfold rfb_takeState_249
  show PP (bb + 1) w D pm_240 (249, [(0, .ref 189), (1, .int (i32 (j 1))), (2, .int (i32 (j 2))), (3, .int (i32 v3))], [], (mhp (mO s [] []) c, N), 0, 0) _
  refine P1_ld 250 (.ref 189) rfl (fun _ => rfl) ?_
  refine P_gf1 253 (.int (i32 (s.1 10))) rfl rfl rfl rfl ?_
  refine P_ifE 274 256 rfl rfl rfl (Cn_i gm 10 rfl) rfl (fun h24 => ?_) (fun h24 => ?_)
  · skip
    refine P_gf 260 (.int (i32 (s.1 7))) rfl rfl rfl rfl rfl rfl ?_
    refine P_ld 263 (.int (i32 305)) rfl (fun _ => rfl) ?_
    refine P_icE 274 266 rfl rfl rfl (Cn_i gm 7 rfl) (l32 305 rfl) rfl (fun h25 => ?_) (fun h25 => ?_)
    · skip
      refine P_ld 267 (.ref 189) rfl (fun _ => rfl) ?_
      refine P_ld 268 (.int (i32 v3)) rfl (fun _ => rfl) ?_
      refine P_ca0 271 241 [.ref 189, .int (i32 v3)] [] rfl (fun _ => rfl) rfl (D_takeExtract w s c N D gm v3 q3) (fun y26 n28 => ?_)
      refine P_goto 249 rfl (fun _ => rfl) ?_
      refine P_some ?_
      exact H1 y26.2 (jk [(1, j 1), (2, j 2)]) n28
    · skip
      refine P_some ?_
      exact H2 s (jk [(1, j 1), (2, j 2)]) gm
  · skip
    refine P_some ?_
    exact H2 s (jk [(1, j 1), (2, j 2)]) gm
def rfl_takeState_243 (v3 : Int) (m : mR) : Option (Int × mR) :=
  bnd (rf_need 123 m) fun y29 =>
  bnd (whl (rfb_takeState_249 v3) y29.2) (fun e32 : mR =>
    rfl_takeState_274 v3 e32)
theorem dg_takeState_243 (w : wX) (c : Nat → Option am_C) (N D : Nat) (bb : Nat) (v3 : Int) (q3 : R32 v3) (m : mR) (hm : Cn m) (j : Nat → Int) : PP bb w D pm_240 (243, [(0, .ref 189), (1, .int (i32 (j 1))), (2, .int (i32 (j 2))), (3, .int (i32 v3))], [], (mhp m c, N), 0, 0) (QS (FR0 c N) (rfl_takeState_243 v3 m)) := by
  unfold rfl_takeState_243
  show PP bb w D pm_240 (243, [(0, .ref 189), (1, .int (i32 (j 1))), (2, .int (i32 (j 2))), (3, .int (i32 v3))], [], (mhp (mO m [] []) c, N), 0, 0) _
  refine P_ld 244 (.ref 189) rfl (fun _ => rfl) ?_
  refine P_ld 246 (.int (i32 123)) rfl (fun _ => rfl) ?_
  refine P_ca0 249 232 [.ref 189, .int (i32 123)] [] rfl (fun _ => rfl) rfl (D_need w m c N D hm 123 (l32 123 rfl)) (fun y29 n31 => ?_)
  refine P_bnd ?_
  refine P_whl (fun bb Q2 H1 H2 s9 j9 hs9 => dh_takeState_249 w c N D v3 q3 bb Q2 H1 H2 s9 j9 hs9) bb (fun e32 j q33 => ?_) y29.2 (jk [(1, j 1), (2, j 2)]) n31
  have q34 := q33
  show PP bb w D pm_240 (274, [(0, .ref 189), (1, .int (i32 (j 1))), (2, .int (i32 (j 2))), (3, .int (i32 v3))], [], (mhp (mO e32 [] []) c, N), 0, 0) (QS _ (rfl_takeState_274 v3 e32))
  exact dg_takeState_274 w c N D bb v3 q3 e32 q34 (jk [(1, j 1), (2, j 2)])
def rfl_takeState_179 (v2 : Int) (m : mR) : Option (Int × mR) :=
  bnd (rf_next (mO m [(24, cut ((m.1 24) + 1))] [(38, upI (m.2 38) v2 (m.1 24)), (39, upI (m.2 39) (m.1 24) v2), (40, upI (m.2 40) (m.1 24) (m.1 8)), (41, upI (m.2 41) (m.1 24) 0), (42, upI (m.2 42) (m.1 24) 0), (43, upI (m.2 43) (m.1 24) 0)])) fun y35 =>
  rfl_takeState_243 (m.1 24) y35.2
theorem dg_takeState_179 (w : wX) (c : Nat → Option am_C) (N D : Nat) (bb : Nat) (v2 : Int) (q2 : R32 v2) (m : mR) (hm : Cn m) (j : Nat → Int) : PP bb w D pm_240 (179, [(0, .ref 189), (1, .int (i32 (j 1))), (2, .int (i32 v2))], [], (mhp m c, N), 0, 0) (QS (FR0 c N) (rfl_takeState_179 v2 m)) := by
  unfold rfl_takeState_179
  show PP bb w D pm_240 (179, [(0, .ref 189), (1, .int (i32 (j 1))), (2, .int (i32 v2))], [], (mhp (mO m [] []) c, N), 0, 0) _
  refine P_gf 183 (.int (i32 (m.1 24))) rfl rfl rfl rfl rfl rfl ?_
  refine P_sto 184 [(3, .int (i32 (m.1 24))), (0, .ref 189), (1, .int (i32 (j 1))), (2, .int (i32 v2))] rfl (fun _ => rfl) ?_
  refine P_ld 185 (.ref 189) rfl (fun _ => rfl) ?_
  refine P_ld 186 (.ref 189) rfl (fun _ => rfl) ?_
  refine P_gf1 189 (.int (i32 (m.1 24))) rfl rfl rfl rfl ?_
  refine P_ld 190 (.int (i32 1)) rfl (fun _ => rfl) ?_
  refine P_op 191 (cut ((m.1 24) + 1)) _ rfl (fun _ => rfl) o_add ?_
  refine P_pf (l' := [(24, cut ((m.1 24) + 1))]) 194 (cut ((m.1 24) + 1)) rfl rfl rfl rfl rfl rfl ?_
  refine P_gf 198 (.ref 208) rfl rfl rfl rfl rfl rfl ?_
  refine P_ld 199 (.int (i32 v2)) rfl (fun _ => rfl) ?_
  refine P_ld 200 (.int (i32 (m.1 24))) rfl (fun _ => rfl) ?_
  refine P_iast2 (a' := [(38, upI (m.2 38) v2 (m.1 24))]) 201 38 (m.2 38) rfl rfl rfl q2 rfl rfl ?_
  refine P_gf 205 (.ref 209) rfl rfl rfl rfl rfl rfl ?_
  refine P_ld 206 (.int (i32 (m.1 24))) rfl (fun _ => rfl) ?_
  refine P_ld 207 (.int (i32 v2)) rfl (fun _ => rfl) ?_
  refine P_iast2 (a' := [(38, upI (m.2 38) v2 (m.1 24)), (39, upI (m.2 39) (m.1 24) v2)]) 208 39 (m.2 39) rfl rfl rfl (Cn_i hm 24 rfl) rfl rfl ?_
  refine P_gf 212 (.ref 210) rfl rfl rfl rfl rfl rfl ?_
  refine P_ld 213 (.int (i32 (m.1 24))) rfl (fun _ => rfl) ?_
  refine P_gf 217 (.int (i32 (m.1 8))) rfl rfl rfl rfl rfl rfl ?_
  refine P_iast2 (a' := [(38, upI (m.2 38) v2 (m.1 24)), (39, upI (m.2 39) (m.1 24) v2), (40, upI (m.2 40) (m.1 24) (m.1 8))]) 218 40 (m.2 40) rfl rfl rfl (Cn_i hm 24 rfl) rfl rfl ?_
  refine P_gf 222 (.ref 211) rfl rfl rfl rfl rfl rfl ?_
  refine P_ld 223 (.int (i32 (m.1 24))) rfl (fun _ => rfl) ?_
  refine P_ld 224 (.int (i32 0)) rfl (fun _ => rfl) ?_
  refine P_iast2 (a' := [(38, upI (m.2 38) v2 (m.1 24)), (39, upI (m.2 39) (m.1 24) v2), (40, upI (m.2 40) (m.1 24) (m.1 8)), (41, upI (m.2 41) (m.1 24) 0)]) 225 41 (m.2 41) rfl rfl rfl (Cn_i hm 24 rfl) rfl rfl ?_
  refine P_gf 229 (.ref 212) rfl rfl rfl rfl rfl rfl ?_
  refine P_ld 230 (.int (i32 (m.1 24))) rfl (fun _ => rfl) ?_
  refine P_ld 231 (.int (i32 0)) rfl (fun _ => rfl) ?_
  refine P_iast2 (a' := [(38, upI (m.2 38) v2 (m.1 24)), (39, upI (m.2 39) (m.1 24) v2), (40, upI (m.2 40) (m.1 24) (m.1 8)), (41, upI (m.2 41) (m.1 24) 0), (42, upI (m.2 42) (m.1 24) 0)]) 232 42 (m.2 42) rfl rfl rfl (Cn_i hm 24 rfl) rfl rfl ?_
  refine P_gf 236 (.ref 213) rfl rfl rfl rfl rfl rfl ?_
  refine P_ld 237 (.int (i32 (m.1 24))) rfl (fun _ => rfl) ?_
  refine P_ld 238 (.int (i32 0)) rfl (fun _ => rfl) ?_
  refine P_iast2 (a' := [(38, upI (m.2 38) v2 (m.1 24)), (39, upI (m.2 39) (m.1 24) v2), (40, upI (m.2 40) (m.1 24) (m.1 8)), (41, upI (m.2 41) (m.1 24) 0), (42, upI (m.2 42) (m.1 24) 0), (43, upI (m.2 43) (m.1 24) 0)]) 239 43 (m.2 43) rfl rfl rfl (Cn_i hm 24 rfl) rfl rfl ?_
  refine P_ld 240 (.ref 189) rfl (fun _ => rfl) ?_
  refine P_ca0 243 212 [.ref 189] [] rfl (fun _ => rfl) rfl (D_next w (mO m [(24, cut ((m.1 24) + 1))] [(38, upI (m.2 38) v2 (m.1 24)), (39, upI (m.2 39) (m.1 24) v2), (40, upI (m.2 40) (m.1 24) (m.1 8)), (41, upI (m.2 41) (m.1 24) 0), (42, upI (m.2 42) (m.1 24) 0), (43, upI (m.2 43) (m.1 24) 0)]) c N D (Cn_mO hm ⟨(rV_i rfl cut_r), trivial⟩ ⟨(rE_ui (Cn_a hm 38) rfl (Cn_i hm 24 rfl)), (rE_ui (Cn_a hm 39) rfl q2), (rE_ui (Cn_a hm 40) rfl (Cn_i hm 8 rfl)), (rE_ui (Cn_a hm 41) rfl (l32 0 rfl)), (rE_ui (Cn_a hm 42) rfl (l32 0 rfl)), (rE_ui (Cn_a hm 43) rfl (l32 0 rfl)), trivial⟩)) (fun y35 n37 => ?_)
  refine P_lv (b := [(0, .ref 189), (1, .int (i32 (j 1))), (2, .int (i32 v2)), (3, .int (i32 (m.1 24)))]) rfl rfl ⟨rfl, rfl, rfl, rfl, trivial⟩ ?_
  exact dg_takeState_243 w c N D bb (m.1 24) (Cn_i hm 24 rfl) y35.2 n37 (jk [(1, j 1), (2, v2)])
def rfl_takeState_169 (v2 : Int) (m : mR) : Option (Int × mR) :=
  rfl_takeState_179 v2 (mO m [(23, cut ((m.1 23) + 1))] [])
theorem dg_takeState_169 (w : wX) (c : Nat → Option am_C) (N D : Nat) (bb : Nat) (v2 : Int) (q2 : R32 v2) (m : mR) (hm : Cn m) (j : Nat → Int) : PP bb w D pm_240 (169, [(0, .ref 189), (1, .int (i32 (j 1))), (2, .int (i32 v2))], [], (mhp m c, N), 0, 0) (QS (FR0 c N) (rfl_takeState_169 v2 m)) := by
  unfold rfl_takeState_169
  show PP bb w D pm_240 (169, [(0, .ref 189), (1, .int (i32 (j 1))), (2, .int (i32 v2))], [], (mhp (mO m [] []) c, N), 0, 0) _
  refine P_ld 170 (.ref 189) rfl (fun _ => rfl) ?_
  refine P_ld 171 (.ref 189) rfl (fun _ => rfl) ?_
  refine P_gf1 174 (.int (i32 (m.1 23))) rfl rfl rfl rfl ?_
  refine P_ld 175 (.int (i32 1)) rfl (fun _ => rfl) ?_
  refine P_op 176 (cut ((m.1 23) + 1)) _ rfl (fun _ => rfl) o_add ?_
  refine P_pf (l' := [(23, cut ((m.1 23) + 1))]) 179 (cut ((m.1 23) + 1)) rfl rfl rfl rfl rfl rfl ?_
  exact dg_takeState_179 w c N D bb v2 q2 (mO m [(23, cut ((m.1 23) + 1))] []) (Cn_mO hm ⟨(rV_i rfl cut_r), trivial⟩ trivial) (jk [(1, j 1)])
def rfl_takeState_140 (v1 : Int) (v2 : Int) (m : mR) : Option (Int × mR) :=
  if m.1 10 ≤ 0 then
    if v1 = (-1) then
      bnd (rf_enter 5 v2 (mO m [] [(37, upI (m.2 37) v2 (m.1 8))])) fun y40 =>
      rfl_takeState_169 v2 y40.2
    else
      rfl_takeState_179 v2 m
  else
    some (0, m)
theorem dg_takeState_140 (w : wX) (c : Nat → Option am_C) (N D : Nat) (bb : Nat) (v1 : Int) (v2 : Int) (q1 : R32 v1) (q2 : R32 v2) (m : mR) (hm : Cn m) (j : Nat → Int) : PP bb w D pm_240 (140, [(0, .ref 189), (1, .int (i32 v1)), (2, .int (i32 v2))], [], (mhp m c, N), 0, 0) (QS (FR0 c N) (rfl_takeState_140 v1 v2 m)) := by
  unfold rfl_takeState_140
  show PP bb w D pm_240 (140, [(0, .ref 189), (1, .int (i32 v1)), (2, .int (i32 v2))], [], (mhp (mO m [] []) c, N), 0, 0) _
  refine P_gf 144 (.int (i32 (m.1 10))) rfl rfl rfl rfl rfl rfl ?_
  refine P_ifF 148 147 rfl rfl rfl (Cn_i hm 10 rfl) rfl (fun h38 => ?_) (fun h38 => ?_)
  · skip
    refine P_ld 149 (.int (i32 v1)) rfl (fun _ => rfl) ?_
    refine P_ld 150 (.int (i32 (-1))) rfl (fun _ => rfl) ?_
    refine P_icE 179 153 rfl rfl rfl q1 (l32 (-1) rfl) rfl (fun h39 => ?_) (fun h39 => ?_)
    · skip
      refine P_gf 157 (.ref 207) rfl rfl rfl rfl rfl rfl ?_
      refine P_ld 158 (.int (i32 v2)) rfl (fun _ => rfl) ?_
      refine P_gf 162 (.int (i32 (m.1 8))) rfl rfl rfl rfl rfl rfl ?_
      refine P_iast2 (a' := [(37, upI (m.2 37) v2 (m.1 8))]) 163 37 (m.2 37) rfl rfl rfl q2 rfl rfl ?_
      refine P_ld 164 (.ref 189) rfl (fun _ => rfl) ?_
      refine P_ld 165 (.int (i32 5)) rfl (fun _ => rfl) ?_
      refine P_ld 166 (.int (i32 v2)) rfl (fun _ => rfl) ?_
      refine P_ca0 169 231 [.ref 189, .int (i32 5), .int (i32 v2)] [] rfl (fun _ => rfl) rfl (D_enter w (mO m [] [(37, upI (m.2 37) v2 (m.1 8))]) c N D (Cn_mO hm trivial ⟨(rE_ui (Cn_a hm 37) rfl (Cn_i hm 8 rfl)), trivial⟩) 5 v2 (l32 5 rfl) q2) (fun y40 n42 => ?_)
      exact dg_takeState_169 w c N D bb v2 q2 y40.2 n42 (jk [(1, v1)])
    · skip
      exact dg_takeState_179 w c N D bb v2 q2 m hm (jk [(1, v1)])
  · skip
    exact P_re0 rfl rfl hm
def rfl_takeState_133 (v1 : Int) (v2 : Int) (u1 : Int) (m : mR) : Option (Int × mR) :=
  bnd (rf_wrong u1 (m.1 8) m) fun y43 =>
  rfl_takeState_140 v1 v2 y43.2
theorem dg_takeState_133 (w : wX) (c : Nat → Option am_C) (N D : Nat) (bb : Nat) (v1 : Int) (v2 : Int) (u1 : Int) (q1 : R32 v1) (q2 : R32 v2) (r1 : R32 u1) (m : mR) (hm : Cn m) (j : Nat → Int) : PP bb w D pm_240 (133, [(0, .ref 189), (1, .int (i32 v1)), (2, .int (i32 v2))], [.int (i32 u1), .ref 189], (mhp m c, N), 0, 0) (QS (FR0 c N) (rfl_takeState_133 v1 v2 u1 m)) := by
  unfold rfl_takeState_133
  show PP bb w D pm_240 (133, [(0, .ref 189), (1, .int (i32 v1)), (2, .int (i32 v2))], [.int (i32 u1), .ref 189], (mhp (mO m [] []) c, N), 0, 0) _
  refine P_gf 137 (.int (i32 (m.1 8))) rfl rfl rfl rfl rfl rfl ?_
  refine P_ca0 140 222 [.ref 189, .int (i32 u1), .int (i32 (m.1 8))] [] rfl (fun _ => rfl) rfl (D_wrong w m c N D hm u1 (m.1 8) r1 (Cn_i hm 8 rfl)) (fun y43 n45 => ?_)
  exact dg_takeState_140 w c N D bb v1 v2 q1 q2 y43.2 n45 (jk [])
def rfl_takeState_113 (v1 : Int) (v2 : Int) (m : mR) : Option (Int × mR) :=
  if v1 = (-1) then
    rfl_takeState_140 v1 v2 m
  else
    if m.1 23 = 16 then
      rfl_takeState_133 v1 v2 4 m
    else
      rfl_takeState_133 v1 v2 3 m
theorem dg_takeState_113 (w : wX) (c : Nat → Option am_C) (N D : Nat) (bb : Nat) (v1 : Int) (v2 : Int) (q1 : R32 v1) (q2 : R32 v2) (m : mR) (hm : Cn m) (j : Nat → Int) : PP bb w D pm_240 (113, [(0, .ref 189), (1, .int (i32 v1)), (2, .int (i32 v2))], [], (mhp m c, N), 0, 0) (QS (FR0 c N) (rfl_takeState_113 v1 v2 m)) := by
  unfold rfl_takeState_113
  show PP bb w D pm_240 (113, [(0, .ref 189), (1, .int (i32 v1)), (2, .int (i32 v2))], [], (mhp (mO m [] []) c, N), 0, 0) _
  refine P_ld 114 (.int (i32 v1)) rfl (fun _ => rfl) ?_
  refine P_ld 115 (.int (i32 (-1))) rfl (fun _ => rfl) ?_
  refine P_icF 140 118 rfl rfl rfl q1 (l32 (-1) rfl) rfl (fun h46 => ?_) (fun h46 => ?_)
  · skip
    exact dg_takeState_140 w c N D bb v1 v2 q1 q2 m hm (jk [])
  · skip
    refine P_ld 119 (.ref 189) rfl (fun _ => rfl) ?_
    refine P_gf 123 (.int (i32 (m.1 23))) rfl rfl rfl rfl rfl rfl ?_
    refine P_ld 125 (.int (i32 16)) rfl (fun _ => rfl) ?_
    refine P_icE 132 128 rfl rfl rfl (Cn_i hm 23 rfl) (l32 16 rfl) rfl (fun h47 => ?_) (fun h47 => ?_)
    · skip
      refine P_ld 129 (.int (i32 4)) rfl (fun _ => rfl) ?_
      refine P_goto 133 rfl (fun _ => rfl) ?_
      exact dg_takeState_133 w c N D bb v1 v2 4 q1 q2 (l32 4 rfl) m hm (jk [])
    · skip
      refine P_ld 133 (.int (i32 3)) rfl (fun _ => rfl) ?_
      exact dg_takeState_133 w c N D bb v1 v2 3 q1 q2 (l32 3 rfl) m hm (jk [])
def rfl_takeState_77 (v1 : Int) (v2 : Int) (u1 : Int) (m : mR) : Option (Int × mR) :=
  bnd (rf_wrong u1 (m.1 8) m) fun y48 =>
  rfl_takeState_140 v1 v2 y48.2
theorem dg_takeState_77 (w : wX) (c : Nat → Option am_C) (N D : Nat) (bb : Nat) (v1 : Int) (v2 : Int) (u1 : Int) (q1 : R32 v1) (q2 : R32 v2) (r1 : R32 u1) (m : mR) (hm : Cn m) (j : Nat → Int) : PP bb w D pm_240 (77, [(0, .ref 189), (1, .int (i32 v1)), (2, .int (i32 v2))], [.int (i32 u1), .ref 189], (mhp m c, N), 0, 0) (QS (FR0 c N) (rfl_takeState_77 v1 v2 u1 m)) := by
  unfold rfl_takeState_77
  show PP bb w D pm_240 (77, [(0, .ref 189), (1, .int (i32 v1)), (2, .int (i32 v2))], [.int (i32 u1), .ref 189], (mhp (mO m [] []) c, N), 0, 0) _
  refine P_gf 81 (.int (i32 (m.1 8))) rfl rfl rfl rfl rfl rfl ?_
  refine P_ca0 84 222 [.ref 189, .int (i32 u1), .int (i32 (m.1 8))] [] rfl (fun _ => rfl) rfl (D_wrong w m c N D hm u1 (m.1 8) r1 (Cn_i hm 8 rfl)) (fun y48 n50 => ?_)
  refine P_goto 140 rfl (fun _ => rfl) ?_
  exact dg_takeState_140 w c N D bb v1 v2 q1 q2 y48.2 n50 (jk [])
def rfl_takeState_76 (v1 : Int) (v2 : Int) (m : mR) : Option (Int × mR) :=
  rfl_takeState_77 v1 v2 3 m
theorem dg_takeState_76 (w : wX) (c : Nat → Option am_C) (N D : Nat) (bb : Nat) (v1 : Int) (v2 : Int) (q1 : R32 v1) (q2 : R32 v2) (m : mR) (hm : Cn m) (j : Nat → Int) : PP bb w D pm_240 (76, [(0, .ref 189), (1, .int (i32 v1)), (2, .int (i32 v2))], [.ref 189], (mhp m c, N), 0, 0) (QS (FR0 c N) (rfl_takeState_76 v1 v2 m)) := by
  unfold rfl_takeState_76
  show PP bb w D pm_240 (76, [(0, .ref 189), (1, .int (i32 v1)), (2, .int (i32 v2))], [.ref 189], (mhp (mO m [] []) c, N), 0, 0) _
  refine P_ld 77 (.int (i32 3)) rfl (fun _ => rfl) ?_
  exact dg_takeState_77 w c N D bb v1 v2 3 q1 q2 (l32 3 rfl) m hm (jk [])
def rfl_takeState_58 (v1 : Int) (v2 : Int) (m : mR) : Option (Int × mR) :=
  if (0 : Int) ≤ v2 then
    rfl_takeState_76 v1 v2 m
  else
    if m.1 23 = 16 then
      rfl_takeState_77 v1 v2 4 m
    else
      rfl_takeState_76 v1 v2 m
theorem dg_takeState_58 (w : wX) (c : Nat → Option am_C) (N D : Nat) (bb : Nat) (v1 : Int) (v2 : Int) (q1 : R32 v1) (q2 : R32 v2) (m : mR) (hm : Cn m) (j : Nat → Int) : PP bb w D pm_240 (58, [(0, .ref 189), (1, .int (i32 v1)), (2, .int (i32 v2))], [], (mhp m c, N), 0, 0) (QS (FR0 c N) (rfl_takeState_58 v1 v2 m)) := by
  unfold rfl_takeState_58
  show PP bb w D pm_240 (58, [(0, .ref 189), (1, .int (i32 v1)), (2, .int (i32 v2))], [], (mhp (mO m [] []) c, N), 0, 0) _
  refine P_ld 59 (.ref 189) rfl (fun _ => rfl) ?_
  refine P_ld 60 (.int (i32 v2)) rfl (fun _ => rfl) ?_
  refine P_ifF 76 63 rfl rfl rfl q2 rfl (fun h51 => ?_) (fun h51 => ?_)
  · skip
    exact dg_takeState_76 w c N D bb v1 v2 q1 q2 m hm (jk [])
  · skip
    refine P_gf 67 (.int (i32 (m.1 23))) rfl rfl rfl rfl rfl rfl ?_
    refine P_ld 69 (.int (i32 16)) rfl (fun _ => rfl) ?_
    refine P_icE 76 72 rfl rfl rfl (Cn_i hm 23 rfl) (l32 16 rfl) rfl (fun h52 => ?_) (fun h52 => ?_)
    · skip
      refine P_ld 73 (.int (i32 4)) rfl (fun _ => rfl) ?_
      refine P_goto 77 rfl (fun _ => rfl) ?_
      exact dg_takeState_77 w c N D bb v1 v2 4 q1 q2 (l32 4 rfl) m hm (jk [])
    · skip
      exact dg_takeState_76 w c N D bb v1 v2 q1 q2 m hm (jk [])
def rfl_takeState_4 (m : mR) : Option (Int × mR) :=
  if m.1 10 ≤ 0 then
    if m.1 7 = 1 then
      bnd (rf_sortHere m) fun y55 =>
      if y55 = 5 then
        bnd (rf_whichHere m) fun y63 =>
        if y63 < 0 then
          rfl_takeState_58 y55 y63 m
        else
          if (m.2 38) y63 < 0 then
            rfl_takeState_140 y55 y63 m
          else
            rfl_takeState_58 y55 y63 m
      else
        if y55 = (-1) then
          if m.1 23 = 16 then
            bnd (rf_wrong 4 (m.1 8) m) fun y60 =>
            rfl_takeState_140 y55 (m.1 23) y60.2
          else
            rfl_takeState_113 y55 (m.1 23) m
        else
          rfl_takeState_113 y55 (m.1 23) m
    else
      bnd (rf_bad m) fun y67 =>
      some (0, y67.2)
  else
    some (0, m)
theorem dg_takeState_4 (w : wX) (c : Nat → Option am_C) (N D : Nat) (bb : Nat) (m : mR) (hm : Cn m) (j : Nat → Int) : PP bb w D pm_240 (4, [(0, .ref 189)], [], (mhp m c, N), 0, 0) (QS (FR0 c N) (rfl_takeState_4 m)) := by
  unfold rfl_takeState_4
  show PP bb w D pm_240 (4, [(0, .ref 189)], [], (mhp (mO m [] []) c, N), 0, 0) _
  refine P_gf 8 (.int (i32 (m.1 10))) rfl rfl rfl rfl rfl rfl ?_
  refine P_ifF 12 11 rfl rfl rfl (Cn_i hm 10 rfl) rfl (fun h53 => ?_) (fun h53 => ?_)
  · skip
    refine P_gf 16 (.int (i32 (m.1 7))) rfl rfl rfl rfl rfl rfl ?_
    refine P_ld 17 (.int (i32 1)) rfl (fun _ => rfl) ?_
    refine P_icF 25 20 rfl rfl rfl (Cn_i hm 7 rfl) (l32 1 rfl) rfl (fun h54 => ?_) (fun h54 => ?_)
    · skip
      refine P_ld 26 (.ref 189) rfl (fun _ => rfl) ?_
      refine P_cp1 29 227 [.ref 189] [] rfl (fun _ => rfl) rfl (D_sortHere w m c N D hm) (fun y55 h56 => ?_)
      refine P_sto 30 [(1, .int (i32 y55)), (0, .ref 189)] rfl (fun _ => rfl) ?_
      refine P_gf 34 (.int (i32 (m.1 23))) rfl rfl rfl rfl rfl rfl ?_
      refine P_sto 35 [(2, .int (i32 (m.1 23))), (1, .int (i32 y55)), (0, .ref 189)] rfl (fun _ => rfl) ?_
      refine P_ld 36 (.int (i32 y55)) rfl (fun _ => rfl) ?_
      refine P_ld 37 (.int (i32 5)) rfl (fun _ => rfl) ?_
      refine P_icE 87 40 rfl rfl rfl h56 (l32 5 rfl) rfl (fun h57 => ?_) (fun h57 => ?_)
      · skip
        refine P_ld 41 (.ref 189) rfl (fun _ => rfl) ?_
        refine P_cp1 44 237 [.ref 189] [] rfl (fun _ => rfl) rfl (D_whichHere w m c N D hm) (fun y63 h64 => ?_)
        refine P_sto 45 [(2, .int (i32 y63)), (1, .int (i32 y55)), (0, .ref 189)] rfl (fun _ => rfl) ?_
        refine P_ld 46 (.int (i32 y63)) rfl (fun _ => rfl) ?_
        refine P_ifF 58 49 rfl rfl rfl h64 rfl (fun h65 => ?_) (fun h65 => ?_)
        · skip
          refine P_lv (b := [(0, .ref 189), (1, .int (i32 y55)), (2, .int (i32 y63))]) rfl rfl ⟨rfl, rfl, rfl, trivial⟩ ?_
          exact dg_takeState_58 w c N D bb y55 y63 h56 h64 m hm (jk [])
        · skip
          refine P_gf 53 (.ref 208) rfl rfl rfl rfl rfl rfl ?_
          refine P_ld 54 (.int (i32 y63)) rfl (fun _ => rfl) ?_
          refine P_iald2 55 38 (m.2 38) rfl rfl rfl h64 rfl ?_
          refine P_ifF 140 58 rfl rfl rfl (rE_i (Cn_a hm 38) rfl _) rfl (fun h66 => ?_) (fun h66 => ?_)
          · skip
            refine P_lv (b := [(0, .ref 189), (1, .int (i32 y55)), (2, .int (i32 y63))]) rfl rfl ⟨rfl, rfl, rfl, trivial⟩ ?_
            exact dg_takeState_140 w c N D bb y55 y63 h56 h64 m hm (jk [])
          · skip
            refine P_lv (b := [(0, .ref 189), (1, .int (i32 y55)), (2, .int (i32 y63))]) rfl rfl ⟨rfl, rfl, rfl, trivial⟩ ?_
            exact dg_takeState_58 w c N D bb y55 y63 h56 h64 m hm (jk [])
      · skip
        refine P_ld 88 (.int (i32 y55)) rfl (fun _ => rfl) ?_
        refine P_ld 89 (.int (i32 (-1))) rfl (fun _ => rfl) ?_
        refine P_icE 113 92 rfl rfl rfl h56 (l32 (-1) rfl) rfl (fun h58 => ?_) (fun h58 => ?_)
        · skip
          refine P_gf 96 (.int (i32 (m.1 23))) rfl rfl rfl rfl rfl rfl ?_
          refine P_ld 98 (.int (i32 16)) rfl (fun _ => rfl) ?_
          refine P_icE 113 101 rfl rfl rfl (Cn_i hm 23 rfl) (l32 16 rfl) rfl (fun h59 => ?_) (fun h59 => ?_)
          · skip
            refine P_ld 102 (.ref 189) rfl (fun _ => rfl) ?_
            refine P_ld 103 (.int (i32 4)) rfl (fun _ => rfl) ?_
            refine P_gf 107 (.int (i32 (m.1 8))) rfl rfl rfl rfl rfl rfl ?_
            refine P_ca0 110 222 [.ref 189, .int (i32 4), .int (i32 (m.1 8))] [] rfl (fun _ => rfl) rfl (D_wrong w m c N D hm 4 (m.1 8) (l32 4 rfl) (Cn_i hm 8 rfl)) (fun y60 n62 => ?_)
            refine P_goto 140 rfl (fun _ => rfl) ?_
            refine P_lv (b := [(0, .ref 189), (1, .int (i32 y55)), (2, .int (i32 (m.1 23)))]) rfl rfl ⟨rfl, rfl, rfl, trivial⟩ ?_
            exact dg_takeState_140 w c N D bb y55 (m.1 23) h56 (Cn_i hm 23 rfl) y60.2 n62 (jk [])
          · skip
            refine P_lv (b := [(0, .ref 189), (1, .int (i32 y55)), (2, .int (i32 (m.1 23)))]) rfl rfl ⟨rfl, rfl, rfl, trivial⟩ ?_
            exact dg_takeState_113 w c N D bb y55 (m.1 23) h56 (Cn_i hm 23 rfl) m hm (jk [])
        · skip
          refine P_lv (b := [(0, .ref 189), (1, .int (i32 y55)), (2, .int (i32 (m.1 23)))]) rfl rfl ⟨rfl, rfl, rfl, trivial⟩ ?_
          exact dg_takeState_113 w c N D bb y55 (m.1 23) h56 (Cn_i hm 23 rfl) m hm (jk [])
    · skip
      refine P_ld 21 (.ref 189) rfl (fun _ => rfl) ?_
      refine P_ca0 24 226 [.ref 189] [] rfl (fun _ => rfl) rfl (D_bad w m c N D hm) (fun y67 n69 => ?_)
      exact P_re0 rfl rfl n69
  · skip
    exact P_re0 rfl rfl hm
def rf_takeState (m : mR) : Option (Int × mR) :=
  bnd (rf_next m) fun y70 =>
  rfl_takeState_4 y70.2
theorem D_takeState (w : wX) (m : mR) (c : Nat → Option am_C) (N D : Nat) (hm : Cn m) : PC w D 240 [.ref 189] (mhp m c, N) (QS (FR0 c N) (rf_takeState m)) := by
  refine Pc_of (fun D bb => ?_) D
  unfold rf_takeState
  show PP bb w D pm_240 (0, [(0, .ref 189)], [], (mhp (mO m [] []) c, N), 0, 0) _
  refine P_ld 1 (.ref 189) rfl (fun _ => rfl) ?_
  refine P_ca0 4 212 [.ref 189] [] rfl (fun _ => rfl) rfl (D_next w m c N D hm) (fun y70 n72 => ?_)
  exact dg_takeState_4 w c N D bb y70.2 n72 (jk [])
def cs_takeParameter_57 (s : Int × mR) : Prop := R32 s.1 ∧ Cn s.2
def cx_takeParameter_57 : (mR) → Prop := (fun (e : mR) => Cn e)
def hd_takeParameter_57 (c : Nat → Option am_C) (N : Nat) (v1 : Int) (v2 : Int) (s : Int × mR) (j : Nat → Int) : ag_St af_T := (57, [(0, .ref 189), (1, .int (i32 v1)), (2, .int (i32 v2)), (3, .int (i32 s.1))], [], (mhp s.2 c, N), 0, 0)
def ex_takeParameter_57 (c : Nat → Option am_C) (N : Nat) (v1 : Int) (v2 : Int) : (mR) → (Nat → Int) → ag_St af_T := (fun (e : mR) (j : Nat → Int) => ((103, [(0, .ref 189), (1, .int (i32 v1)), (2, .int (i32 v2)), (3, .int (i32 (j 3)))], [], (mhp e c, N), 0, 0) : ag_St af_T))
def rfl_takeParameter_153 (v1 : Int) (u1 : Int) (u2 : Int) (m : mR) : Option (Int × mR) :=
  some (0, (mO m [] [(46, upI (m.2 46) v1 (cut (((m.2 46) v1) + 1))), (49, upI (m.2 49) u1 u2)]))
theorem dg_takeParameter_153 (w : wX) (c : Nat → Option am_C) (N D : Nat) (bb : Nat) (v1 : Int) (u1 : Int) (u2 : Int) (q1 : R32 v1) (r1 : R32 u1) (r2 : R32 u2) (m : mR) (hm : Cn m) (j : Nat → Int) : PP bb w D pm_268 (153, [(0, .ref 189), (1, .int (i32 v1)), (2, .int (i32 (j 2))), (3, .int (i32 (j 3)))], [.int (i32 u2), .int (i32 u1), .ref 219], (mhp m c, N), 0, 0) (QS (FR0 c N) (rfl_takeParameter_153 v1 u1 u2 m)) := by
  unfold rfl_takeParameter_153
  show PP bb w D pm_268 (153, [(0, .ref 189), (1, .int (i32 v1)), (2, .int (i32 (j 2))), (3, .int (i32 (j 3)))], [.int (i32 u2), .int (i32 u1), .ref 219], (mhp (mO m [] []) c, N), 0, 0) _
  refine P_iast2 (a' := [(49, upI (m.2 49) u1 u2)]) 154 49 (m.2 49) rfl rfl rfl r1 rfl rfl ?_
  refine P_gf 158 (.ref 216) rfl rfl rfl rfl rfl rfl ?_
  refine P_ld 159 (.int (i32 v1)) rfl (fun _ => rfl) ?_
  refine P_dup2 160 rfl (fun _ => rfl) ?_
  refine P_iald2 161 46 (m.2 46) rfl rfl rfl q1 rfl ?_
  refine P_ld 162 (.int (i32 1)) rfl (fun _ => rfl) ?_
  refine P_op 163 (cut (((m.2 46) v1) + 1)) _ rfl (fun _ => rfl) o_add ?_
  refine P_iast2 (a' := [(46, upI (m.2 46) v1 (cut (((m.2 46) v1) + 1))), (49, upI (m.2 49) u1 u2)]) 164 46 (m.2 46) rfl rfl rfl q1 rfl rfl ?_
  exact P_re0 rfl rfl (Cn_mO hm trivial ⟨(rE_ui (Cn_a hm 46) rfl cut_r), (rE_ui (Cn_a hm 49) rfl r2), trivial⟩)
def rfl_takeParameter_141 (v1 : Int) (v2 : Int) (m : mR) : Option (Int × mR) :=
  bnd (rf_number 1 64 m) fun y2 =>
  rfl_takeParameter_153 v1 v2 y2.1 y2.2
theorem dg_takeParameter_141 (w : wX) (c : Nat → Option am_C) (N D : Nat) (bb : Nat) (v1 : Int) (v2 : Int) (q1 : R32 v1) (q2 : R32 v2) (m : mR) (hm : Cn m) (j : Nat → Int) : PP bb w D pm_268 (141, [(0, .ref 189), (1, .int (i32 v1)), (2, .int (i32 v2)), (3, .int (i32 (j 3)))], [], (mhp m c, N), 0, 0) (QS (FR0 c N) (rfl_takeParameter_141 v1 v2 m)) := by
  unfold rfl_takeParameter_141
  show PP bb w D pm_268 (141, [(0, .ref 189), (1, .int (i32 v1)), (2, .int (i32 v2)), (3, .int (i32 (j 3)))], [], (mhp (mO m [] []) c, N), 0, 0) _
  refine P_gf 145 (.ref 219) rfl rfl rfl rfl rfl rfl ?_
  refine P_ld 146 (.int (i32 v2)) rfl (fun _ => rfl) ?_
  refine P_ld 147 (.ref 189) rfl (fun _ => rfl) ?_
  refine P_ld 148 (.int (i32 1)) rfl (fun _ => rfl) ?_
  refine P_ld 150 (.int (i32 64)) rfl (fun _ => rfl) ?_
  refine P_ca1 153 234 [.ref 189, .int (i32 1), .int (i32 64)] [.int (i32 v2), .ref 219] rfl (fun _ => rfl) rfl (D_number w m c N D hm 1 64 (l32 1 rfl) (l32 64 rfl)) (fun y2 h3 n4 => ?_)
  exact dg_takeParameter_153 w c N D bb v1 v2 y2.1 q1 q2 h3 y2.2 n4 (jk [(2, v2), (3, j 3)])
def rfl_takeParameter_135 (v1 : Int) (v2 : Int) (m : mR) : Option (Int × mR) :=
  bnd (rf_need 58 m) fun y5 =>
  rfl_takeParameter_141 v1 v2 y5.2
theorem dg_takeParameter_135 (w : wX) (c : Nat → Option am_C) (N D : Nat) (bb : Nat) (v1 : Int) (v2 : Int) (q1 : R32 v1) (q2 : R32 v2) (m : mR) (hm : Cn m) (j : Nat → Int) : PP bb w D pm_268 (135, [(0, .ref 189), (1, .int (i32 v1)), (2, .int (i32 v2)), (3, .int (i32 (j 3)))], [], (mhp m c, N), 0, 0) (QS (FR0 c N) (rfl_takeParameter_135 v1 v2 m)) := by
  unfold rfl_takeParameter_135
  show PP bb w D pm_268 (135, [(0, .ref 189), (1, .int (i32 v1)), (2, .int (i32 v2)), (3, .int (i32 (j 3)))], [], (mhp (mO m [] []) c, N), 0, 0) _
  refine P_ld 136 (.ref 189) rfl (fun _ => rfl) ?_
  refine P_ld 138 (.int (i32 58)) rfl (fun _ => rfl) ?_
  refine P_ca0 141 232 [.ref 189, .int (i32 58)] [] rfl (fun _ => rfl) rfl (D_need w m c N D hm 58 (l32 58 rfl)) (fun y5 n7 => ?_)
  exact dg_takeParameter_141 w c N D bb v1 v2 q1 q2 y5.2 n7 (jk [(3, j 3)])
def rfl_takeParameter_103 (v1 : Int) (v2 : Int) (m : mR) : Option (Int × mR) :=
  if m.1 10 ≤ 0 then
    bnd (rf_next (mO m [] [(47, upI (m.2 47) v2 (m.1 8)), (48, upI (m.2 48) v2 (m.1 9))])) fun y9 =>
    rfl_takeParameter_135 v1 v2 y9.2
  else
    some (0, m)
theorem dg_takeParameter_103 (w : wX) (c : Nat → Option am_C) (N D : Nat) (bb : Nat) (v1 : Int) (v2 : Int) (q1 : R32 v1) (q2 : R32 v2) (m : mR) (hm : Cn m) (j : Nat → Int) : PP bb w D pm_268 (103, [(0, .ref 189), (1, .int (i32 v1)), (2, .int (i32 v2)), (3, .int (i32 (j 3)))], [], (mhp m c, N), 0, 0) (QS (FR0 c N) (rfl_takeParameter_103 v1 v2 m)) := by
  unfold rfl_takeParameter_103
  show PP bb w D pm_268 (103, [(0, .ref 189), (1, .int (i32 v1)), (2, .int (i32 v2)), (3, .int (i32 (j 3)))], [], (mhp (mO m [] []) c, N), 0, 0) _
  refine P_gf 107 (.int (i32 (m.1 10))) rfl rfl rfl rfl rfl rfl ?_
  refine P_ifF 111 110 rfl rfl rfl (Cn_i hm 10 rfl) rfl (fun h8 => ?_) (fun h8 => ?_)
  · skip
    refine P_gf 115 (.ref 217) rfl rfl rfl rfl rfl rfl ?_
    refine P_ld 116 (.int (i32 v2)) rfl (fun _ => rfl) ?_
    refine P_gf 120 (.int (i32 (m.1 8))) rfl rfl rfl rfl rfl rfl ?_
    refine P_iast2 (a' := [(47, upI (m.2 47) v2 (m.1 8))]) 121 47 (m.2 47) rfl rfl rfl q2 rfl rfl ?_
    refine P_gf 125 (.ref 218) rfl rfl rfl rfl rfl rfl ?_
    refine P_ld 126 (.int (i32 v2)) rfl (fun _ => rfl) ?_
    refine P_gf 130 (.int (i32 (m.1 9))) rfl rfl rfl rfl rfl rfl ?_
    refine P_iast2 (a' := [(47, upI (m.2 47) v2 (m.1 8)), (48, upI (m.2 48) v2 (m.1 9))]) 131 48 (m.2 48) rfl rfl rfl q2 rfl rfl ?_
    refine P_ld 132 (.ref 189) rfl (fun _ => rfl) ?_
    refine P_ca0 135 212 [.ref 189] [] rfl (fun _ => rfl) rfl (D_next w (mO m [] [(47, upI (m.2 47) v2 (m.1 8)), (48, upI (m.2 48) v2 (m.1 9))]) c N D (Cn_mO hm trivial ⟨(rE_ui (Cn_a hm 47) rfl (Cn_i hm 8 rfl)), (rE_ui (Cn_a hm 48) rfl (Cn_i hm 9 rfl)), trivial⟩)) (fun y9 n11 => ?_)
    exact dg_takeParameter_135 w c N D bb v1 v2 q1 q2 y9.2 n11 (jk [(3, j 3)])
  · skip
    exact P_re0 rfl rfl hm
def rfl_takeParameter_97 (v1 : Int) (v2 : Int) (v3 : Int) (m : mR) : Option (Sum (Int × mR) (mR)) :=
  some (.inl (cut (v3 + 1), m))
theorem dg_takeParameter_97 (w : wX) (c : Nat → Option am_C) (N D : Nat) (bb : Nat) (v1 : Int) (v2 : Int) (v3 : Int) (q1 : R32 v1) (q2 : R32 v2) (q3 : R32 v3) (m : mR) (hm : Cn m) (j : Nat → Int) (Q2 : Sum (Int × mR) (mR) → ag_Re af_T → Prop) (H1 : ∀ s j, cs_takeParameter_57 s → PP bb w D pm_268 (hd_takeParameter_57 c N v1 v2 s j) (Q2 (.inl s))) (H2 : ∀ x j, cx_takeParameter_57 x → PP bb w D pm_268 (ex_takeParameter_57 c N v1 v2 x j) (Q2 (.inr x))) : PP bb w D pm_268 (97, [(0, .ref 189), (1, .int (i32 v1)), (2, .int (i32 v2)), (3, .int (i32 v3))], [], (mhp m c, N), 0, 0) (QS Q2 (rfl_takeParameter_97 v1 v2 v3 m)) := by
  unfold rfl_takeParameter_97
  show PP bb w D pm_268 (97, [(0, .ref 189), (1, .int (i32 v1)), (2, .int (i32 v2)), (3, .int (i32 v3))], [], (mhp (mO m [] []) c, N), 0, 0) _
  refine P_inc 100 [(3, .int (i32 (cut (v3 + 1)))), (0, .ref 189), (1, .int (i32 v1)), (2, .int (i32 v2))] rfl rfl (by decide) rfl rfl ?_
  refine P_goto 57 rfl (fun _ => rfl) ?_
  refine P_some ?_
  refine P_lv (b := [(0, .ref 189), (1, .int (i32 v1)), (2, .int (i32 v2)), (3, .int (i32 (cut (v3 + 1))))]) rfl rfl ⟨rfl, rfl, rfl, rfl, trivial⟩ ?_
  exact H1 (cut (v3 + 1), m) (jk []) ⟨cut_r, hm⟩
def rfb_takeParameter_57 (v1 : Int) (v2 : Int) (s : Int × mR) : Option (Sum (Int × mR) (mR)) :=
  if v2 ≤ s.1 then
    some (.inr s.2)
  else
    if s.2.1 10 = 0 then
      bnd (rf_isHere ((s.2.2 47) s.1) ((s.2.2 48) s.1) s.2) fun y15 =>
      if y15 = 0 then
        rfl_takeParameter_97 v1 v2 s.1 s.2
      else
        bnd (rf_wrong 3 (s.2.1 8) s.2) fun y18 =>
        rfl_takeParameter_97 v1 v2 s.1 y18.2
    else
      some (.inr s.2)
theorem dh_takeParameter_57 (w : wX) (c : Nat → Option am_C) (N D : Nat) (v1 : Int) (v2 : Int) (q1 : R32 v1) (q2 : R32 v2) (bb : Nat) (Q2 : Sum (Int × mR) (mR) → ag_Re af_T → Prop) (H1 : ∀ s j, cs_takeParameter_57 s → PP bb w D pm_268 (hd_takeParameter_57 c N v1 v2 s j) (Q2 (.inl s))) (H2 : ∀ x j, cx_takeParameter_57 x → PP bb w D pm_268 (ex_takeParameter_57 c N v1 v2 x j) (Q2 (.inr x))) (s : Int × mR) (j : Nat → Int) (hs : cs_takeParameter_57 s) : PP (bb + 1) w D pm_268 (hd_takeParameter_57 c N v1 v2 s j) (QS Q2 (rfb_takeParameter_57 v1 v2 s)) := by
  obtain ⟨g3, gm⟩ := hs
  unfold rfb_takeParameter_57
  show PP (bb + 1) w D pm_268 (57, [(0, .ref 189), (1, .int (i32 v1)), (2, .int (i32 v2)), (3, .int (i32 s.1))], [], (mhp (mO s.2 [] []) c, N), 0, 0) _
  refine P1_ld 58 (.int (i32 s.1)) rfl (fun _ => rfl) ?_
  refine P_ld 59 (.int (i32 v2)) rfl (fun _ => rfl) ?_
  refine P_icF 103 62 rfl rfl rfl g3 q2 rfl (fun h13 => ?_) (fun h13 => ?_)
  · skip
    refine P_some ?_
    exact H2 s.2 (jk [(3, s.1)]) gm
  · skip
    refine P_gf 66 (.int (i32 (s.2.1 10))) rfl rfl rfl rfl rfl rfl ?_
    refine P_ifE 103 69 rfl rfl rfl (Cn_i gm 10 rfl) rfl (fun h14 => ?_) (fun h14 => ?_)
    · skip
      refine P_ld 70 (.ref 189) rfl (fun _ => rfl) ?_
      refine P_gf 74 (.ref 217) rfl rfl rfl rfl rfl rfl ?_
      refine P_ld 75 (.int (i32 s.1)) rfl (fun _ => rfl) ?_
      refine P_iald2 76 47 (s.2.2 47) rfl rfl rfl g3 rfl ?_
      refine P_gf 80 (.ref 218) rfl rfl rfl rfl rfl rfl ?_
      refine P_ld 81 (.int (i32 s.1)) rfl (fun _ => rfl) ?_
      refine P_iald2 82 48 (s.2.2 48) rfl rfl rfl g3 rfl ?_
      refine P_cp1 85 230 [.ref 189, .int (i32 ((s.2.2 47) s.1)), .int (i32 ((s.2.2 48) s.1))] [] rfl (fun _ => rfl) rfl (D_isHere w s.2 c N D gm ((s.2.2 47) s.1) ((s.2.2 48) s.1) (rE_i (Cn_a gm 47) rfl _) (rE_i (Cn_a gm 48) rfl _)) (fun y15 h16 => ?_)
      refine P_ifF 97 88 rfl rfl rfl h16 rfl (fun h17 => ?_) (fun h17 => ?_)
      · skip
        exact dg_takeParameter_97 w c N D bb v1 v2 s.1 q1 q2 g3 s.2 gm (jk []) Q2 H1 H2
      · skip
        refine P_ld 89 (.ref 189) rfl (fun _ => rfl) ?_
        refine P_ld 90 (.int (i32 3)) rfl (fun _ => rfl) ?_
        refine P_gf 94 (.int (i32 (s.2.1 8))) rfl rfl rfl rfl rfl rfl ?_
        refine P_ca0 97 222 [.ref 189, .int (i32 3), .int (i32 (s.2.1 8))] [] rfl (fun _ => rfl) rfl (D_wrong w s.2 c N D gm 3 (s.2.1 8) (l32 3 rfl) (Cn_i gm 8 rfl)) (fun y18 n20 => ?_)
        exact dg_takeParameter_97 w c N D bb v1 v2 s.1 q1 q2 g3 y18.2 n20 (jk []) Q2 H1 H2
    · skip
      refine P_some ?_
      exact H2 s.2 (jk [(3, s.1)]) gm
def rfl_takeParameter_53 (v1 : Int) (v2 : Int) (m : mR) : Option (Int × mR) :=
  bnd (whl (rfb_takeParameter_57 v1 v2) (cut (4 * v1), m)) (fun e21 : mR =>
    rfl_takeParameter_103 v1 v2 e21)
theorem dg_takeParameter_53 (w : wX) (c : Nat → Option am_C) (N D : Nat) (bb : Nat) (v1 : Int) (v2 : Int) (q1 : R32 v1) (q2 : R32 v2) (m : mR) (hm : Cn m) (j : Nat → Int) : PP bb w D pm_268 (53, [(0, .ref 189), (1, .int (i32 v1)), (2, .int (i32 v2))], [], (mhp m c, N), 0, 0) (QS (FR0 c N) (rfl_takeParameter_53 v1 v2 m)) := by
  unfold rfl_takeParameter_53
  show PP bb w D pm_268 (53, [(0, .ref 189), (1, .int (i32 v1)), (2, .int (i32 v2))], [], (mhp (mO m [] []) c, N), 0, 0) _
  refine P_ld 54 (.int (i32 4)) rfl (fun _ => rfl) ?_
  refine P_ld 55 (.int (i32 v1)) rfl (fun _ => rfl) ?_
  refine P_op 56 (cut (4 * v1)) _ rfl (fun _ => rfl) o_mul ?_
  refine P_sto 57 [(3, .int (i32 (cut (4 * v1)))), (0, .ref 189), (1, .int (i32 v1)), (2, .int (i32 v2))] rfl (fun _ => rfl) ?_
  refine P_lv (b := [(0, .ref 189), (1, .int (i32 v1)), (2, .int (i32 v2)), (3, .int (i32 (cut (4 * v1))))]) rfl rfl ⟨rfl, rfl, rfl, rfl, trivial⟩ ?_
  refine P_bnd ?_
  refine P_whl (fun bb Q2 H1 H2 s9 j9 hs9 => dh_takeParameter_57 w c N D v1 v2 q1 q2 bb Q2 H1 H2 s9 j9 hs9) bb (fun e21 j q22 => ?_) (cut (4 * v1), m) (jk []) ⟨cut_r, hm⟩
  have q23 := q22
  show PP bb w D pm_268 (103, [(0, .ref 189), (1, .int (i32 v1)), (2, .int (i32 v2)), (3, .int (i32 (j 3)))], [], (mhp (mO e21 [] []) c, N), 0, 0) (QS _ (rfl_takeParameter_103 v1 v2 e21))
  exact dg_takeParameter_103 w c N D bb v1 v2 q1 q2 e21 q23 (jk [(3, j 3)])
def rf_takeParameter (v1 : Int) (m : mR) : Option (Int × mR) :=
  if m.1 10 ≤ 0 then
    if m.1 7 = 1 then
      if (m.2 46) v1 = 4 then
        bnd (rf_wrong 4 (m.1 8) m) fun y27 =>
        rfl_takeParameter_53 v1 (cut ((cut (4 * v1)) + ((m.2 46) v1))) y27.2
      else
        rfl_takeParameter_53 v1 (cut ((cut (4 * v1)) + ((m.2 46) v1))) m
    else
      bnd (rf_bad m) fun y30 =>
      rfl_takeParameter_53 v1 (cut ((cut (4 * v1)) + ((m.2 46) v1))) y30.2
  else
    some (0, m)
theorem D_takeParameter (w : wX) (m : mR) (c : Nat → Option am_C) (N D : Nat) (hm : Cn m) (v1 : Int) (q1 : R32 v1) : PC w D 268 [.ref 189, .int (i32 v1)] (mhp m c, N) (QS (FR0 c N) (rf_takeParameter v1 m)) := by
  refine Pc_of (fun D bb => ?_) D
  unfold rf_takeParameter
  show PP bb w D pm_268 (0, [(0, .ref 189), (1, .int (i32 v1))], [], (mhp (mO m [] []) c, N), 0, 0) _
  refine P_gf 4 (.int (i32 (m.1 10))) rfl rfl rfl rfl rfl rfl ?_
  refine P_ifF 8 7 rfl rfl rfl (Cn_i hm 10 rfl) rfl (fun h24 => ?_) (fun h24 => ?_)
  · skip
    refine P_ld 9 (.int (i32 4)) rfl (fun _ => rfl) ?_
    refine P_ld 10 (.int (i32 v1)) rfl (fun _ => rfl) ?_
    refine P_op 11 (cut (4 * v1)) _ rfl (fun _ => rfl) o_mul ?_
    refine P_gf 15 (.ref 216) rfl rfl rfl rfl rfl rfl ?_
    refine P_ld 16 (.int (i32 v1)) rfl (fun _ => rfl) ?_
    refine P_iald2 17 46 (m.2 46) rfl rfl rfl q1 rfl ?_
    refine P_op 18 (cut ((cut (4 * v1)) + ((m.2 46) v1))) _ rfl (fun _ => rfl) o_add ?_
    refine P_sto 19 [(2, .int (i32 (cut ((cut (4 * v1)) + ((m.2 46) v1))))), (0, .ref 189), (1, .int (i32 v1))] rfl (fun _ => rfl) ?_
    refine P_gf 23 (.int (i32 (m.1 7))) rfl rfl rfl rfl rfl rfl ?_
    refine P_ld 24 (.int (i32 1)) rfl (fun _ => rfl) ?_
    refine P_icF 34 27 rfl rfl rfl (Cn_i hm 7 rfl) (l32 1 rfl) rfl (fun h25 => ?_) (fun h25 => ?_)
    · skip
      refine P_gf 38 (.ref 216) rfl rfl rfl rfl rfl rfl ?_
      refine P_ld 39 (.int (i32 v1)) rfl (fun _ => rfl) ?_
      refine P_iald2 40 46 (m.2 46) rfl rfl rfl q1 rfl ?_
      refine P_ld 41 (.int (i32 4)) rfl (fun _ => rfl) ?_
      refine P_icE 53 44 rfl rfl rfl (rE_i (Cn_a hm 46) rfl _) (l32 4 rfl) rfl (fun h26 => ?_) (fun h26 => ?_)
      · skip
        refine P_ld 45 (.ref 189) rfl (fun _ => rfl) ?_
        refine P_ld 46 (.int (i32 4)) rfl (fun _ => rfl) ?_
        refine P_gf 50 (.int (i32 (m.1 8))) rfl rfl rfl rfl rfl rfl ?_
        refine P_ca0 53 222 [.ref 189, .int (i32 4), .int (i32 (m.1 8))] [] rfl (fun _ => rfl) rfl (D_wrong w m c N D hm 4 (m.1 8) (l32 4 rfl) (Cn_i hm 8 rfl)) (fun y27 n29 => ?_)
        refine P_lv (b := [(0, .ref 189), (1, .int (i32 v1)), (2, .int (i32 (cut ((cut (4 * v1)) + ((m.2 46) v1)))))]) rfl rfl ⟨rfl, rfl, rfl, trivial⟩ ?_
        exact dg_takeParameter_53 w c N D bb v1 (cut ((cut (4 * v1)) + ((m.2 46) v1))) q1 cut_r y27.2 n29 (jk [])
      · skip
        refine P_lv (b := [(0, .ref 189), (1, .int (i32 v1)), (2, .int (i32 (cut ((cut (4 * v1)) + ((m.2 46) v1)))))]) rfl rfl ⟨rfl, rfl, rfl, trivial⟩ ?_
        exact dg_takeParameter_53 w c N D bb v1 (cut ((cut (4 * v1)) + ((m.2 46) v1))) q1 cut_r m hm (jk [])
    · skip
      refine P_ld 28 (.ref 189) rfl (fun _ => rfl) ?_
      refine P_ca0 31 226 [.ref 189] [] rfl (fun _ => rfl) rfl (D_bad w m c N D hm) (fun y30 n32 => ?_)
      refine P_goto 53 rfl (fun _ => rfl) ?_
      refine P_lv (b := [(0, .ref 189), (1, .int (i32 v1)), (2, .int (i32 (cut ((cut (4 * v1)) + ((m.2 46) v1)))))]) rfl rfl ⟨rfl, rfl, rfl, trivial⟩ ?_
      exact dg_takeParameter_53 w c N D bb v1 (cut ((cut (4 * v1)) + ((m.2 46) v1))) q1 cut_r y30.2 n32 (jk [])
  · skip
    exact P_re0 rfl rfl hm
def rfl_isStatement_63 (u0 : Int) (m : mR) : Option Int :=
  some u0
theorem dg_isStatement_63 (w : wX) (c : Nat → Option am_C) (N D : Nat) (bb : Nat) (u0 : Int) (r0 : R32 u0) (m : mR) (hm : Cn m) (j : Nat → Int) : PP bb w D pm_269 (63, [(0, .ref 189)], [.int (i32 u0)], (mhp m c, N), 0, 0) (QS (FP1 (mhp m c, N)) (rfl_isStatement_63 u0 m)) := by
  unfold rfl_isStatement_63
  show PP bb w D pm_269 (63, [(0, .ref 189)], [.int (i32 u0)], (mhp (mO m [] []) c, N), 0, 0) _
  exact P_rp1 rfl r0
def rfl_isStatement_58 (m : mR) : Option Int :=
  rfl_isStatement_63 1 m
theorem dg_isStatement_58 (w : wX) (c : Nat → Option am_C) (N D : Nat) (bb : Nat) (m : mR) (hm : Cn m) (j : Nat → Int) : PP bb w D pm_269 (58, [(0, .ref 189)], [], (mhp m c, N), 0, 0) (QS (FP1 (mhp m c, N)) (rfl_isStatement_58 m)) := by
  unfold rfl_isStatement_58
  show PP bb w D pm_269 (58, [(0, .ref 189)], [], (mhp (mO m [] []) c, N), 0, 0) _
  refine P_ld 59 (.int (i32 1)) rfl (fun _ => rfl) ?_
  refine P_goto 63 rfl (fun _ => rfl) ?_
  exact dg_isStatement_63 w c N D bb 1 (l32 1 rfl) m hm (jk [])
def rf_isStatement (m : mR) : Option Int :=
  if m.1 7 = 1 then
    rfl_isStatement_58 m
  else
    if m.1 7 = 327 then
      rfl_isStatement_58 m
    else
      if m.1 7 = 328 then
        rfl_isStatement_58 m
      else
        if m.1 7 = 324 then
          rfl_isStatement_58 m
        else
          if m.1 7 = 325 then
            rfl_isStatement_58 m
          else
            if m.1 7 = 326 then
              rfl_isStatement_58 m
            else
              rfl_isStatement_63 0 m
theorem D_isStatement (w : wX) (m : mR) (c : Nat → Option am_C) (N D : Nat) (hm : Cn m) : PC w D 269 [.ref 189] (mhp m c, N) (QS (FP1 (mhp m c, N)) (rf_isStatement m)) := by
  refine Pc_of (fun D bb => ?_) D
  unfold rf_isStatement
  show PP bb w D pm_269 (0, [(0, .ref 189)], [], (mhp (mO m [] []) c, N), 0, 0) _
  refine P_gf 4 (.int (i32 (m.1 7))) rfl rfl rfl rfl rfl rfl ?_
  refine P_ld 5 (.int (i32 1)) rfl (fun _ => rfl) ?_
  refine P_icF 58 8 rfl rfl rfl (Cn_i hm 7 rfl) (l32 1 rfl) rfl (fun h1 => ?_) (fun h1 => ?_)
  · skip
    exact dg_isStatement_58 w c N D bb m hm (jk [])
  · skip
    refine P_gf 12 (.int (i32 (m.1 7))) rfl rfl rfl rfl rfl rfl ?_
    refine P_ld 15 (.int (i32 327)) rfl (fun _ => rfl) ?_
    refine P_icF 58 18 rfl rfl rfl (Cn_i hm 7 rfl) (l32 327 rfl) rfl (fun h2 => ?_) (fun h2 => ?_)
    · skip
      exact dg_isStatement_58 w c N D bb m hm (jk [])
    · skip
      refine P_gf 22 (.int (i32 (m.1 7))) rfl rfl rfl rfl rfl rfl ?_
      refine P_ld 25 (.int (i32 328)) rfl (fun _ => rfl) ?_
      refine P_icF 58 28 rfl rfl rfl (Cn_i hm 7 rfl) (l32 328 rfl) rfl (fun h3 => ?_) (fun h3 => ?_)
      · skip
        exact dg_isStatement_58 w c N D bb m hm (jk [])
      · skip
        refine P_gf 32 (.int (i32 (m.1 7))) rfl rfl rfl rfl rfl rfl ?_
        refine P_ld 35 (.int (i32 324)) rfl (fun _ => rfl) ?_
        refine P_icF 58 38 rfl rfl rfl (Cn_i hm 7 rfl) (l32 324 rfl) rfl (fun h4 => ?_) (fun h4 => ?_)
        · skip
          exact dg_isStatement_58 w c N D bb m hm (jk [])
        · skip
          refine P_gf 42 (.int (i32 (m.1 7))) rfl rfl rfl rfl rfl rfl ?_
          refine P_ld 45 (.int (i32 325)) rfl (fun _ => rfl) ?_
          refine P_icF 58 48 rfl rfl rfl (Cn_i hm 7 rfl) (l32 325 rfl) rfl (fun h5 => ?_) (fun h5 => ?_)
          · skip
            exact dg_isStatement_58 w c N D bb m hm (jk [])
          · skip
            refine P_gf 52 (.int (i32 (m.1 7))) rfl rfl rfl rfl rfl rfl ?_
            refine P_ld 55 (.int (i32 326)) rfl (fun _ => rfl) ?_
            refine P_icE 62 58 rfl rfl rfl (Cn_i hm 7 rfl) (l32 326 rfl) rfl (fun h6 => ?_) (fun h6 => ?_)
            · skip
              exact dg_isStatement_58 w c N D bb m hm (jk [])
            · skip
              refine P_ld 63 (.int (i32 0)) rfl (fun _ => rfl) ?_
              exact dg_isStatement_63 w c N D bb 0 (l32 0 rfl) m hm (jk [])
def rfl_takePlace_123 (u0 : Int) (m : mR) : Option (Int × mR) :=
  if m.1 10 ≤ 0 then
    bnd (rf_bitsOfField u0 m) fun y2 =>
    some (cut (16 + u0), (mO m [(100, y2)] []))
  else
    some (0, m)
theorem dg_takePlace_123 (w : wX) (c : Nat → Option am_C) (N D : Nat) (bb : Nat) (u0 : Int) (r0 : R32 u0) (m : mR) (hm : Cn m) (j : Nat → Int) : PP bb w D pm_271 (123, [(0, .ref 189), (1, .int (i32 (j 1))), (2, .int (i32 (j 2)))], [.int (i32 u0)], (mhp m c, N), 0, 0) (QS (FR1 c N) (rfl_takePlace_123 u0 m)) := by
  unfold rfl_takePlace_123
  show PP bb w D pm_271 (123, [(0, .ref 189), (1, .int (i32 (j 1))), (2, .int (i32 (j 2)))], [.int (i32 u0)], (mhp (mO m [] []) c, N), 0, 0) _
  refine P_sto 124 [(3, .int (i32 u0)), (0, .ref 189), (1, .int (i32 (j 1))), (2, .int (i32 (j 2)))] rfl (fun _ => rfl) ?_
  refine P_gf 128 (.int (i32 (m.1 10))) rfl rfl rfl rfl rfl rfl ?_
  refine P_ifF 133 131 rfl rfl rfl (Cn_i hm 10 rfl) rfl (fun h1 => ?_) (fun h1 => ?_)
  · skip
    refine P_ld 134 (.ref 189) rfl (fun _ => rfl) ?_
    refine P_ld 135 (.ref 189) rfl (fun _ => rfl) ?_
    refine P_ld 136 (.int (i32 u0)) rfl (fun _ => rfl) ?_
    refine P_cp1 139 254 [.ref 189, .int (i32 u0)] [.ref 189] rfl (fun _ => rfl) rfl (D_bitsOfField w m c N D hm u0 r0) (fun y2 h3 => ?_)
    refine P_pf (l' := [(100, y2)]) 142 y2 rfl rfl rfl rfl rfl rfl ?_
    refine P_ld 144 (.int (i32 16)) rfl (fun _ => rfl) ?_
    refine P_ld 145 (.int (i32 u0)) rfl (fun _ => rfl) ?_
    refine P_op 146 (cut (16 + u0)) _ rfl (fun _ => rfl) o_add ?_
    exact P_re1 rfl cut_r (Cn_mO hm ⟨(rV_i rfl h3), trivial⟩ trivial)
  · skip
    refine P_ld 132 (.int (i32 0)) rfl (fun _ => rfl) ?_
    exact P_re1 rfl (l32 0 rfl) hm
def rfl_takePlace_118 (v2 : Int) (m : mR) : Option (Int × mR) :=
  bnd (rf_takeField v2 m) fun y4 =>
  rfl_takePlace_123 y4.1 y4.2
theorem dg_takePlace_118 (w : wX) (c : Nat → Option am_C) (N D : Nat) (bb : Nat) (v2 : Int) (q2 : R32 v2) (m : mR) (hm : Cn m) (j : Nat → Int) : PP bb w D pm_271 (118, [(0, .ref 189), (1, .int (i32 (j 1))), (2, .int (i32 v2))], [], (mhp m c, N), 0, 0) (QS (FR1 c N) (rfl_takePlace_118 v2 m)) := by
  unfold rfl_takePlace_118
  show PP bb w D pm_271 (118, [(0, .ref 189), (1, .int (i32 (j 1))), (2, .int (i32 v2))], [], (mhp (mO m [] []) c, N), 0, 0) _
  refine P_ld 119 (.ref 189) rfl (fun _ => rfl) ?_
  refine P_ld 120 (.int (i32 v2)) rfl (fun _ => rfl) ?_
  refine P_ca1 123 253 [.ref 189, .int (i32 v2)] [] rfl (fun _ => rfl) rfl (D_takeField w m c N D hm v2 q2) (fun y4 h5 n6 => ?_)
  exact dg_takePlace_123 w c N D bb y4.1 h5 y4.2 n6 (jk [(1, j 1), (2, v2)])
def rfl_takePlace_86 (v1 : Int) (v2 : Int) (m : mR) : Option (Int × mR) :=
  if m.1 10 ≤ 0 then
    if v1 = 3 then
      some (v2, (mO m [(100, (m.2 35) v2)] []))
    else
      bnd (rf_need 46 m) fun y9 =>
      rfl_takePlace_118 v2 y9.2
  else
    some (0, m)
theorem dg_takePlace_86 (w : wX) (c : Nat → Option am_C) (N D : Nat) (bb : Nat) (v1 : Int) (v2 : Int) (q1 : R32 v1) (q2 : R32 v2) (m : mR) (hm : Cn m) (j : Nat → Int) : PP bb w D pm_271 (86, [(0, .ref 189), (1, .int (i32 v1)), (2, .int (i32 v2))], [], (mhp m c, N), 0, 0) (QS (FR1 c N) (rfl_takePlace_86 v1 v2 m)) := by
  unfold rfl_takePlace_86
  show PP bb w D pm_271 (86, [(0, .ref 189), (1, .int (i32 v1)), (2, .int (i32 v2))], [], (mhp (mO m [] []) c, N), 0, 0) _
  refine P_gf 90 (.int (i32 (m.1 10))) rfl rfl rfl rfl rfl rfl ?_
  refine P_ifF 95 93 rfl rfl rfl (Cn_i hm 10 rfl) rfl (fun h7 => ?_) (fun h7 => ?_)
  · skip
    refine P_ld 96 (.int (i32 v1)) rfl (fun _ => rfl) ?_
    refine P_ld 97 (.int (i32 3)) rfl (fun _ => rfl) ?_
    refine P_icE 112 100 rfl rfl rfl q1 (l32 3 rfl) rfl (fun h8 => ?_) (fun h8 => ?_)
    · skip
      refine P_ld 101 (.ref 189) rfl (fun _ => rfl) ?_
      refine P_gf 105 (.ref 205) rfl rfl rfl rfl rfl rfl ?_
      refine P_ld 106 (.int (i32 v2)) rfl (fun _ => rfl) ?_
      refine P_iald2 107 35 (m.2 35) rfl rfl rfl q2 rfl ?_
      refine P_pf (l' := [(100, (m.2 35) v2)]) 110 ((m.2 35) v2) rfl rfl rfl rfl rfl rfl ?_
      refine P_ld 111 (.int (i32 v2)) rfl (fun _ => rfl) ?_
      exact P_re1 rfl q2 (Cn_mO hm ⟨(rV_i rfl (rE_i (Cn_a hm 35) rfl _)), trivial⟩ trivial)
    · skip
      refine P_ld 113 (.ref 189) rfl (fun _ => rfl) ?_
      refine P_ld 115 (.int (i32 46)) rfl (fun _ => rfl) ?_
      refine P_ca0 118 232 [.ref 189, .int (i32 46)] [] rfl (fun _ => rfl) rfl (D_need w m c N D hm 46 (l32 46 rfl)) (fun y9 n11 => ?_)
      exact dg_takePlace_118 w c N D bb v2 q2 y9.2 n11 (jk [(1, v1)])
  · skip
    refine P_ld 94 (.int (i32 0)) rfl (fun _ => rfl) ?_
    exact P_re1 rfl (l32 0 rfl) hm
def rfl_takePlace_82 (v1 : Int) (v2 : Int) (m : mR) : Option (Int × mR) :=
  bnd (rf_next m) fun y12 =>
  rfl_takePlace_86 v1 v2 y12.2
theorem dg_takePlace_82 (w : wX) (c : Nat → Option am_C) (N D : Nat) (bb : Nat) (v1 : Int) (v2 : Int) (q1 : R32 v1) (q2 : R32 v2) (m : mR) (hm : Cn m) (j : Nat → Int) : PP bb w D pm_271 (82, [(0, .ref 189), (1, .int (i32 v1)), (2, .int (i32 v2))], [], (mhp m c, N), 0, 0) (QS (FR1 c N) (rfl_takePlace_82 v1 v2 m)) := by
  unfold rfl_takePlace_82
  show PP bb w D pm_271 (82, [(0, .ref 189), (1, .int (i32 v1)), (2, .int (i32 v2))], [], (mhp (mO m [] []) c, N), 0, 0) _
  refine P_ld 83 (.ref 189) rfl (fun _ => rfl) ?_
  refine P_ca0 86 212 [.ref 189] [] rfl (fun _ => rfl) rfl (D_next w m c N D hm) (fun y12 n14 => ?_)
  exact dg_takePlace_86 w c N D bb v1 v2 q1 q2 y12.2 n14 (jk [])
def rfl_takePlace_72 (v1 : Int) (v2 : Int) (m : mR) : Option (Int × mR) :=
  bnd (rf_wrong 6 (m.1 8) m) fun y15 =>
  rfl_takePlace_82 v1 v2 y15.2
theorem dg_takePlace_72 (w : wX) (c : Nat → Option am_C) (N D : Nat) (bb : Nat) (v1 : Int) (v2 : Int) (q1 : R32 v1) (q2 : R32 v2) (m : mR) (hm : Cn m) (j : Nat → Int) : PP bb w D pm_271 (72, [(0, .ref 189), (1, .int (i32 v1)), (2, .int (i32 v2))], [], (mhp m c, N), 0, 0) (QS (FR1 c N) (rfl_takePlace_72 v1 v2 m)) := by
  unfold rfl_takePlace_72
  show PP bb w D pm_271 (72, [(0, .ref 189), (1, .int (i32 v1)), (2, .int (i32 v2))], [], (mhp (mO m [] []) c, N), 0, 0) _
  refine P_ld 73 (.ref 189) rfl (fun _ => rfl) ?_
  refine P_ld 75 (.int (i32 6)) rfl (fun _ => rfl) ?_
  refine P_gf 79 (.int (i32 (m.1 8))) rfl rfl rfl rfl rfl rfl ?_
  refine P_ca0 82 222 [.ref 189, .int (i32 6), .int (i32 (m.1 8))] [] rfl (fun _ => rfl) rfl (D_wrong w m c N D hm 6 (m.1 8) (l32 6 rfl) (Cn_i hm 8 rfl)) (fun y15 n17 => ?_)
  exact dg_takePlace_82 w c N D bb v1 v2 q1 q2 y15.2 n17 (jk [])
def rfl_takePlace_62 (v1 : Int) (v2 : Int) (m : mR) : Option (Int × mR) :=
  if v1 = 3 then
    if (2 : Int) ≤ v2 then
      rfl_takePlace_82 v1 v2 m
    else
      rfl_takePlace_72 v1 v2 m
  else
    rfl_takePlace_82 v1 v2 m
theorem dg_takePlace_62 (w : wX) (c : Nat → Option am_C) (N D : Nat) (bb : Nat) (v1 : Int) (v2 : Int) (q1 : R32 v1) (q2 : R32 v2) (m : mR) (hm : Cn m) (j : Nat → Int) : PP bb w D pm_271 (62, [(0, .ref 189), (1, .int (i32 v1)), (2, .int (i32 v2))], [], (mhp m c, N), 0, 0) (QS (FR1 c N) (rfl_takePlace_62 v1 v2 m)) := by
  unfold rfl_takePlace_62
  show PP bb w D pm_271 (62, [(0, .ref 189), (1, .int (i32 v1)), (2, .int (i32 v2))], [], (mhp (mO m [] []) c, N), 0, 0) _
  refine P_ld 63 (.int (i32 v1)) rfl (fun _ => rfl) ?_
  refine P_ld 64 (.int (i32 3)) rfl (fun _ => rfl) ?_
  refine P_icE 82 67 rfl rfl rfl q1 (l32 3 rfl) rfl (fun h18 => ?_) (fun h18 => ?_)
  · skip
    refine P_ld 68 (.int (i32 v2)) rfl (fun _ => rfl) ?_
    refine P_ld 69 (.int (i32 2)) rfl (fun _ => rfl) ?_
    refine P_icF 82 72 rfl rfl rfl q2 (l32 2 rfl) rfl (fun h19 => ?_) (fun h19 => ?_)
    · skip
      exact dg_takePlace_82 w c N D bb v1 v2 q1 q2 m hm (jk [])
    · skip
      exact dg_takePlace_72 w c N D bb v1 v2 q1 q2 m hm (jk [])
  · skip
    exact dg_takePlace_82 w c N D bb v1 v2 q1 q2 m hm (jk [])
def rfl_takePlace_51 (v1 : Int) (u0 : Int) (m : mR) : Option (Int × mR) :=
  if v1 = 3 then
    rfl_takePlace_62 v1 u0 m
  else
    if v1 = 2 then
      rfl_takePlace_62 v1 u0 m
    else
      rfl_takePlace_72 v1 u0 m
theorem dg_takePlace_51 (w : wX) (c : Nat → Option am_C) (N D : Nat) (bb : Nat) (v1 : Int) (u0 : Int) (q1 : R32 v1) (r0 : R32 u0) (m : mR) (hm : Cn m) (j : Nat → Int) : PP bb w D pm_271 (51, [(0, .ref 189), (1, .int (i32 v1))], [.int (i32 u0)], (mhp m c, N), 0, 0) (QS (FR1 c N) (rfl_takePlace_51 v1 u0 m)) := by
  unfold rfl_takePlace_51
  show PP bb w D pm_271 (51, [(0, .ref 189), (1, .int (i32 v1))], [.int (i32 u0)], (mhp (mO m [] []) c, N), 0, 0) _
  refine P_sto 52 [(2, .int (i32 u0)), (0, .ref 189), (1, .int (i32 v1))] rfl (fun _ => rfl) ?_
  refine P_ld 53 (.int (i32 v1)) rfl (fun _ => rfl) ?_
  refine P_ld 54 (.int (i32 3)) rfl (fun _ => rfl) ?_
  refine P_icF 62 57 rfl rfl rfl q1 (l32 3 rfl) rfl (fun h20 => ?_) (fun h20 => ?_)
  · skip
    refine P_lv (b := [(0, .ref 189), (1, .int (i32 v1)), (2, .int (i32 u0))]) rfl rfl ⟨rfl, rfl, rfl, trivial⟩ ?_
    exact dg_takePlace_62 w c N D bb v1 u0 q1 r0 m hm (jk [])
  · skip
    refine P_ld 58 (.int (i32 v1)) rfl (fun _ => rfl) ?_
    refine P_ld 59 (.int (i32 2)) rfl (fun _ => rfl) ?_
    refine P_icE 72 62 rfl rfl rfl q1 (l32 2 rfl) rfl (fun h21 => ?_) (fun h21 => ?_)
    · skip
      refine P_lv (b := [(0, .ref 189), (1, .int (i32 v1)), (2, .int (i32 u0))]) rfl rfl ⟨rfl, rfl, rfl, trivial⟩ ?_
      exact dg_takePlace_62 w c N D bb v1 u0 q1 r0 m hm (jk [])
    · skip
      refine P_lv (b := [(0, .ref 189), (1, .int (i32 v1)), (2, .int (i32 u0))]) rfl rfl ⟨rfl, rfl, rfl, trivial⟩ ?_
      exact dg_takePlace_72 w c N D bb v1 u0 q1 r0 m hm (jk [])
def rfl_takePlace_43 (v1 : Int) (m : mR) : Option (Int × mR) :=
  bnd (rf_whichHere m) fun y22 =>
  rfl_takePlace_51 v1 y22 m
theorem dg_takePlace_43 (w : wX) (c : Nat → Option am_C) (N D : Nat) (bb : Nat) (v1 : Int) (q1 : R32 v1) (m : mR) (hm : Cn m) (j : Nat → Int) : PP bb w D pm_271 (43, [(0, .ref 189), (1, .int (i32 v1))], [], (mhp m c, N), 0, 0) (QS (FR1 c N) (rfl_takePlace_43 v1 m)) := by
  unfold rfl_takePlace_43
  show PP bb w D pm_271 (43, [(0, .ref 189), (1, .int (i32 v1))], [], (mhp (mO m [] []) c, N), 0, 0) _
  refine P_ld 44 (.ref 189) rfl (fun _ => rfl) ?_
  refine P_cp1 47 237 [.ref 189] [] rfl (fun _ => rfl) rfl (D_whichHere w m c N D hm) (fun y22 h23 => ?_)
  refine P_goto 51 rfl (fun _ => rfl) ?_
  exact dg_takePlace_51 w c N D bb v1 y22 q1 h23 m hm (jk [])
def rf_takePlace (m : mR) : Option (Int × mR) :=
  if m.1 10 ≤ 0 then
    if m.1 7 = 1 then
      bnd (rf_sortHere (mO m [(100, 1)] [])) fun y26 =>
      if y26 = 3 then
        rfl_takePlace_43 y26 (mO m [(100, 1)] [])
      else
        if y26 = 2 then
          rfl_takePlace_43 y26 (mO m [(100, 1)] [])
        else
          rfl_takePlace_51 y26 0 (mO m [(100, 1)] [])
    else
      bnd (rf_bad (mO m [(100, 1)] [])) fun y30 =>
      some (0, y30.2)
  else
    some (0, (mO m [(100, 1)] []))
theorem D_takePlace (w : wX) (m : mR) (c : Nat → Option am_C) (N D : Nat) (hm : Cn m) : PC w D 271 [.ref 189] (mhp m c, N) (QS (FR1 c N) (rf_takePlace m)) := by
  refine Pc_of (fun D bb => ?_) D
  unfold rf_takePlace
  show PP bb w D pm_271 (0, [(0, .ref 189)], [], (mhp (mO m [] []) c, N), 0, 0) _
  refine P_ld 1 (.ref 189) rfl (fun _ => rfl) ?_
  refine P_ld 2 (.int (i32 1)) rfl (fun _ => rfl) ?_
  refine P_pf (l' := [(100, 1)]) 5 1 rfl rfl rfl rfl rfl rfl ?_
  refine P_gf 9 (.int (i32 (m.1 10))) rfl rfl rfl rfl rfl rfl ?_
  refine P_ifF 14 12 rfl rfl rfl (Cn_i hm 10 rfl) rfl (fun h24 => ?_) (fun h24 => ?_)
  · skip
    refine P_gf 18 (.int (i32 (m.1 7))) rfl rfl rfl rfl rfl rfl ?_
    refine P_ld 19 (.int (i32 1)) rfl (fun _ => rfl) ?_
    refine P_icF 28 22 rfl rfl rfl (Cn_i hm 7 rfl) (l32 1 rfl) rfl (fun h25 => ?_) (fun h25 => ?_)
    · skip
      refine P_ld 29 (.ref 189) rfl (fun _ => rfl) ?_
      refine P_cp1 32 227 [.ref 189] [] rfl (fun _ => rfl) rfl (D_sortHere w (mO m [(100, 1)] []) c N D (Cn_mO hm ⟨(rV_i rfl (l32 1 rfl)), trivial⟩ trivial)) (fun y26 h27 => ?_)
      refine P_sto 33 [(1, .int (i32 y26)), (0, .ref 189)] rfl (fun _ => rfl) ?_
      refine P_ld 34 (.int (i32 y26)) rfl (fun _ => rfl) ?_
      refine P_ld 35 (.int (i32 3)) rfl (fun _ => rfl) ?_
      refine P_icF 43 38 rfl rfl rfl h27 (l32 3 rfl) rfl (fun h28 => ?_) (fun h28 => ?_)
      · skip
        refine P_lv (b := [(0, .ref 189), (1, .int (i32 y26))]) rfl rfl ⟨rfl, rfl, trivial⟩ ?_
        exact dg_takePlace_43 w c N D bb y26 h27 (mO m [(100, 1)] []) (Cn_mO hm ⟨(rV_i rfl (l32 1 rfl)), trivial⟩ trivial) (jk [])
      · skip
        refine P_ld 39 (.int (i32 y26)) rfl (fun _ => rfl) ?_
        refine P_ld 40 (.int (i32 2)) rfl (fun _ => rfl) ?_
        refine P_icE 50 43 rfl rfl rfl h27 (l32 2 rfl) rfl (fun h29 => ?_) (fun h29 => ?_)
        · skip
          refine P_lv (b := [(0, .ref 189), (1, .int (i32 y26))]) rfl rfl ⟨rfl, rfl, trivial⟩ ?_
          exact dg_takePlace_43 w c N D bb y26 h27 (mO m [(100, 1)] []) (Cn_mO hm ⟨(rV_i rfl (l32 1 rfl)), trivial⟩ trivial) (jk [])
        · skip
          refine P_ld 51 (.int (i32 0)) rfl (fun _ => rfl) ?_
          refine P_lv (b := [(0, .ref 189), (1, .int (i32 y26))]) rfl rfl ⟨rfl, rfl, trivial⟩ ?_
          exact dg_takePlace_51 w c N D bb y26 0 h27 (l32 0 rfl) (mO m [(100, 1)] []) (Cn_mO hm ⟨(rV_i rfl (l32 1 rfl)), trivial⟩ trivial) (jk [])
    · skip
      refine P_ld 23 (.ref 189) rfl (fun _ => rfl) ?_
      refine P_ca0 26 226 [.ref 189] [] rfl (fun _ => rfl) rfl (D_bad w (mO m [(100, 1)] []) c N D (Cn_mO hm ⟨(rV_i rfl (l32 1 rfl)), trivial⟩ trivial)) (fun y30 n32 => ?_)
      refine P_ld 27 (.int (i32 0)) rfl (fun _ => rfl) ?_
      exact P_re1 rfl (l32 0 rfl) n32
  · skip
    refine P_ld 13 (.int (i32 0)) rfl (fun _ => rfl) ?_
    exact P_re1 rfl (l32 0 rfl) (Cn_mO hm ⟨(rV_i rfl (l32 1 rfl)), trivial⟩ trivial)
def rfl_exprOf_43 (u1 : Int) (m : mR) : Option (Int × mR) :=
  bnd (rf_want u1 (m.1 70) m) fun y1 =>
  some (0, y1.2)
theorem dg_exprOf_43 (w : wX) (c : Nat → Option am_C) (N D : Nat) (bb : Nat) (u1 : Int) (r1 : R32 u1) (m : mR) (hm : Cn m) (j : Nat → Int) : PP bb w D pm_273 (43, [(0, .ref 189), (1, .int (i32 (j 1)))], [.int (i32 u1), .ref 189], (mhp m c, N), 0, 0) (QS (FR0 c N) (rfl_exprOf_43 u1 m)) := by
  unfold rfl_exprOf_43
  show PP bb w D pm_273 (43, [(0, .ref 189), (1, .int (i32 (j 1)))], [.int (i32 u1), .ref 189], (mhp (mO m [] []) c, N), 0, 0) _
  refine P_gf 47 (.int (i32 (m.1 70))) rfl rfl rfl rfl rfl rfl ?_
  refine P_ca0 50 256 [.ref 189, .int (i32 u1), .int (i32 (m.1 70))] [] rfl (fun _ => rfl) rfl (D_want w m c N D hm u1 (m.1 70) r1 (Cn_i hm 70 rfl)) (fun y1 n3 => ?_)
  exact P_re0 rfl rfl n3
def rfl_exprOf_4 (v1 : Int) (m : mR) : Option (Int × mR) :=
  if m.1 10 = 0 then
    if m.1 71 = 0 then
      if m.1 69 = v1 then
        rfl_exprOf_43 1 m
      else
        rfl_exprOf_43 0 m
    else
      bnd (rf_fits (m.1 72) v1) fun y7 =>
      rfl_exprOf_43 y7 m
  else
    some (0, m)
theorem dg_exprOf_4 (w : wX) (c : Nat → Option am_C) (N D : Nat) (bb : Nat) (v1 : Int) (q1 : R32 v1) (m : mR) (hm : Cn m) (j : Nat → Int) : PP bb w D pm_273 (4, [(0, .ref 189), (1, .int (i32 v1))], [], (mhp m c, N), 0, 0) (QS (FR0 c N) (rfl_exprOf_4 v1 m)) := by
  unfold rfl_exprOf_4
  show PP bb w D pm_273 (4, [(0, .ref 189), (1, .int (i32 v1))], [], (mhp (mO m [] []) c, N), 0, 0) _
  refine P_gf 8 (.int (i32 (m.1 10))) rfl rfl rfl rfl rfl rfl ?_
  refine P_ifE 50 11 rfl rfl rfl (Cn_i hm 10 rfl) rfl (fun h4 => ?_) (fun h4 => ?_)
  · skip
    refine P_ld 12 (.ref 189) rfl (fun _ => rfl) ?_
    refine P_gf 16 (.int (i32 (m.1 71))) rfl rfl rfl rfl rfl rfl ?_
    refine P_ifF 30 19 rfl rfl rfl (Cn_i hm 71 rfl) rfl (fun h5 => ?_) (fun h5 => ?_)
    · skip
      refine P_gf 34 (.int (i32 (m.1 69))) rfl rfl rfl rfl rfl rfl ?_
      refine P_ld 35 (.int (i32 v1)) rfl (fun _ => rfl) ?_
      refine P_icE 42 38 rfl rfl rfl (Cn_i hm 69 rfl) q1 rfl (fun h6 => ?_) (fun h6 => ?_)
      · skip
        refine P_ld 39 (.int (i32 1)) rfl (fun _ => rfl) ?_
        refine P_goto 43 rfl (fun _ => rfl) ?_
        exact dg_exprOf_43 w c N D bb 1 (l32 1 rfl) m hm (jk [(1, v1)])
      · skip
        refine P_ld 43 (.int (i32 0)) rfl (fun _ => rfl) ?_
        exact dg_exprOf_43 w c N D bb 0 (l32 0 rfl) m hm (jk [(1, v1)])
    · skip
      refine P_gf 23 (.long (i64 (m.1 72))) rfl rfl rfl rfl rfl rfl ?_
      refine P_ld 24 (.int (i32 v1)) rfl (fun _ => rfl) ?_
      refine P_cp1 27 262 [.long (i64 (m.1 72)), .int (i32 v1)] [.ref 189] rfl (fun _ => rfl) rfl (D_fits w _ D (m.1 72) v1 (Cn_l hm 72 rfl) q1) (fun y7 h8 => ?_)
      refine P_goto 43 rfl (fun _ => rfl) ?_
      exact dg_exprOf_43 w c N D bb y7 h8 m hm (jk [(1, v1)])
  · skip
    exact P_re0 rfl rfl hm
def rf_exprOf (v1 : Int) (m : mR) : Option (Int × mR) :=
  bnd (rf_readExpr m) fun y9 =>
  rfl_exprOf_4 v1 y9.2
theorem D_exprOf (w : wX) (m : mR) (c : Nat → Option am_C) (N D : Nat) (hm : Cn m) (v1 : Int) (q1 : R32 v1) : PC w D 273 [.ref 189, .int (i32 v1)] (mhp m c, N) (QS (FR0 c N) (rf_exprOf v1 m)) := by
  refine Pc_of (fun D bb => ?_) D
  unfold rf_exprOf
  show PP bb w D pm_273 (0, [(0, .ref 189), (1, .int (i32 v1))], [], (mhp (mO m [] []) c, N), 0, 0) _
  refine P_ld 1 (.ref 189) rfl (fun _ => rfl) ?_
  refine P_ca0 4 244 [.ref 189] [] rfl (fun _ => rfl) rfl (D_readExpr w m c N D hm) (fun y9 n11 => ?_)
  exact dg_exprOf_4 w c N D bb v1 q1 y9.2 n11 (jk [])
def rfl_takeWorth_22 (v1 : Int) (m : mR) : Option (Int × mR) :=
  some (0, (mO m [] [(108, upI (m.2 108) v1 (m.1 28))]))
theorem dg_takeWorth_22 (w : wX) (c : Nat → Option am_C) (N D : Nat) (bb : Nat) (v1 : Int) (q1 : R32 v1) (m : mR) (hm : Cn m) (j : Nat → Int) : PP bb w D pm_272 (22, [(0, .ref 189), (1, .int (i32 v1)), (2, .int (i32 (j 2)))], [], (mhp m c, N), 0, 0) (QS (FR0 c N) (rfl_takeWorth_22 v1 m)) := by
  unfold rfl_takeWorth_22
  show PP bb w D pm_272 (22, [(0, .ref 189), (1, .int (i32 v1)), (2, .int (i32 (j 2)))], [], (mhp (mO m [] []) c, N), 0, 0) _
  refine P_gf 26 (.ref 268) rfl rfl rfl rfl rfl rfl ?_
  refine P_ld 27 (.int (i32 v1)) rfl (fun _ => rfl) ?_
  refine P_gf 31 (.int (i32 (m.1 28))) rfl rfl rfl rfl rfl rfl ?_
  refine P_iast2 (a' := [(108, upI (m.2 108) v1 (m.1 28))]) 32 108 (m.2 108) rfl rfl rfl q1 rfl rfl ?_
  exact P_re0 rfl rfl (Cn_mO hm trivial ⟨(rE_ui (Cn_a hm 108) rfl (Cn_i hm 28 rfl)), trivial⟩)
def rf_takeWorth (v1 : Int) (v2 : Int) (m : mR) : Option (Int × mR) :=
  if m.1 10 = 0 then
    bnd (rf_exprOf v2 (mO m [] [(107, upI (m.2 107) v1 (m.1 28))])) fun y2 =>
    rfl_takeWorth_22 v1 y2.2
  else
    rfl_takeWorth_22 v1 (mO m [] [(107, upI (m.2 107) v1 (m.1 28))])
theorem D_takeWorth (w : wX) (m : mR) (c : Nat → Option am_C) (N D : Nat) (hm : Cn m) (v1 : Int) (v2 : Int) (q1 : R32 v1) (q2 : R32 v2) : PC w D 272 [.ref 189, .int (i32 v1), .int (i32 v2)] (mhp m c, N) (QS (FR0 c N) (rf_takeWorth v1 v2 m)) := by
  refine Pc_of (fun D bb => ?_) D
  unfold rf_takeWorth
  show PP bb w D pm_272 (0, [(0, .ref 189), (1, .int (i32 v1)), (2, .int (i32 v2))], [], (mhp (mO m [] []) c, N), 0, 0) _
  refine P_gf 4 (.ref 267) rfl rfl rfl rfl rfl rfl ?_
  refine P_ld 5 (.int (i32 v1)) rfl (fun _ => rfl) ?_
  refine P_gf 9 (.int (i32 (m.1 28))) rfl rfl rfl rfl rfl rfl ?_
  refine P_iast2 (a' := [(107, upI (m.2 107) v1 (m.1 28))]) 10 107 (m.2 107) rfl rfl rfl q1 rfl rfl ?_
  refine P_gf 14 (.int (i32 (m.1 10))) rfl rfl rfl rfl rfl rfl ?_
  refine P_ifE 22 17 rfl rfl rfl (Cn_i hm 10 rfl) rfl (fun h1 => ?_) (fun h1 => ?_)
  · skip
    refine P_ld 18 (.ref 189) rfl (fun _ => rfl) ?_
    refine P_ld 19 (.int (i32 v2)) rfl (fun _ => rfl) ?_
    refine P_ca0 22 273 [.ref 189, .int (i32 v2)] [] rfl (fun _ => rfl) rfl (D_exprOf w (mO m [] [(107, upI (m.2 107) v1 (m.1 28))]) c N D (Cn_mO hm trivial ⟨(rE_ui (Cn_a hm 107) rfl (Cn_i hm 28 rfl)), trivial⟩) v2 q2) (fun y2 n4 => ?_)
    exact dg_takeWorth_22 w c N D bb v1 q1 y2.2 n4 (jk [(2, v2)])
  · skip
    exact dg_takeWorth_22 w c N D bb v1 q1 (mO m [] [(107, upI (m.2 107) v1 (m.1 28))]) (Cn_mO hm trivial ⟨(rE_ui (Cn_a hm 107) rfl (Cn_i hm 28 rfl)), trivial⟩) (jk [(2, v2)])
end X26H
