noncomputable section X26K
def cs_takeTable_101 (s : Int × Int × mR) : Prop := R32 s.1 ∧ R32 s.2.1 ∧ Cn s.2.2
def cx_takeTable_101 : (Sum (mR) (Int × Int × mR)) → Prop := (sel (fun (e : mR) => Cn e) (fun (e : Int × Int × mR) => R32 e.1 ∧ R32 e.2.1 ∧ Cn e.2.2))
def hd_takeTable_101 (c : Nat → Option am_C) (N : Nat) (v1 : Int) (s : Int × Int × mR) (j : Nat → Int) : ag_St af_T := (101, [(0, .ref 189), (1, .int (i32 v1)), (2, .int (i32 s.1)), (3, .int (i32 s.2.1)), (4, .int (i32 (j 4))), (5, .int (i32 (j 5))), (6, .int (i32 (j 6))), (7, .int (i32 (j 7)))], [], (mhp s.2.2 c, N), 0, 0)
def ex_takeTable_101 (c : Nat → Option am_C) (N : Nat) (v1 : Int) : (Sum (mR) (Int × Int × mR)) → (Nat → Int) → ag_St af_T := (sel (fun (e : mR) (j : Nat → Int) => ((144, [(0, .ref 189), (1, .int (i32 (j 1))), (2, .int (i32 (j 2))), (3, .int (i32 (j 3))), (4, .int (i32 (j 4))), (5, .int (i32 (j 5))), (6, .int (i32 (j 6))), (7, .int (i32 (j 7)))], [], (mhp e c, N), 0, 0) : ag_St af_T)) (fun (e : Int × Int × mR) (j : Nat → Int) => ((384, [(0, .ref 189), (1, .int (i32 v1)), (2, .int (i32 e.1)), (3, .int (i32 e.2.1)), (4, .int (i32 (j 4))), (5, .int (i32 (j 5))), (6, .int (i32 (j 6))), (7, .int (i32 (j 7)))], [], (mhp e.2.2 c, N), 0, 0) : ag_St af_T)))
def rfl_takeTable_418 (m : mR) : Option (Int × mR) :=
  bnd (rf_need 125 m) fun y5 =>
  some (0, y5.2)
theorem dg_takeTable_418 (w : wX) (c : Nat → Option am_C) (N D : Nat) (bb : Nat) (m : mR) (hm : Cn m) (j : Nat → Int) : PP bb w D pm_275 (418, [(0, .ref 189), (1, .int (i32 (j 1))), (2, .int (i32 (j 2))), (3, .int (i32 (j 3))), (4, .int (i32 (j 4))), (5, .int (i32 (j 5))), (6, .int (i32 (j 6))), (7, .int (i32 (j 7)))], [], (mhp m c, N), 0, 0) (QS (FR0 c N) (rfl_takeTable_418 m)) := by
  unfold rfl_takeTable_418
  show PP bb w D pm_275 (418, [(0, .ref 189), (1, .int (i32 (j 1))), (2, .int (i32 (j 2))), (3, .int (i32 (j 3))), (4, .int (i32 (j 4))), (5, .int (i32 (j 5))), (6, .int (i32 (j 6))), (7, .int (i32 (j 7)))], [], (mhp (mO m [] []) c, N), 0, 0) _
  refine P_ld 419 (.ref 189) rfl (fun _ => rfl) ?_
  refine P_ld 421 (.int (i32 125)) rfl (fun _ => rfl) ?_
  refine P_ca0 424 232 [.ref 189, .int (i32 125)] [] rfl (fun _ => rfl) rfl (D_need w m c N D hm 125 (l32 125 rfl)) (fun y5 n7 => ?_)
  exact P_re0 rfl rfl n7
def rfl_takeTable_413 (v1 : Int) (m : mR) : Option (Int × mR) :=
  bnd (rf_takeRoom v1 m) fun y8 =>
  rfl_takeTable_418 y8.2
theorem dg_takeTable_413 (w : wX) (c : Nat → Option am_C) (N D : Nat) (bb : Nat) (v1 : Int) (q1 : R32 v1) (m : mR) (hm : Cn m) (j : Nat → Int) : PP bb w D pm_275 (413, [(0, .ref 189), (1, .int (i32 v1)), (2, .int (i32 (j 2))), (3, .int (i32 (j 3))), (4, .int (i32 (j 4))), (5, .int (i32 (j 5))), (6, .int (i32 (j 6))), (7, .int (i32 (j 7)))], [], (mhp m c, N), 0, 0) (QS (FR0 c N) (rfl_takeTable_413 v1 m)) := by
  unfold rfl_takeTable_413
  show PP bb w D pm_275 (413, [(0, .ref 189), (1, .int (i32 v1)), (2, .int (i32 (j 2))), (3, .int (i32 (j 3))), (4, .int (i32 (j 4))), (5, .int (i32 (j 5))), (6, .int (i32 (j 6))), (7, .int (i32 (j 7)))], [], (mhp (mO m [] []) c, N), 0, 0) _
  refine P_ld 414 (.ref 189) rfl (fun _ => rfl) ?_
  refine P_ld 415 (.int (i32 v1)) rfl (fun _ => rfl) ?_
  refine P_ca0 418 278 [.ref 189, .int (i32 v1)] [] rfl (fun _ => rfl) rfl (D_takeRoom w m c N D hm v1 q1) (fun y8 n10 => ?_)
  exact dg_takeTable_418 w c N D bb y8.2 n10 (jk [(1, v1), (2, j 2), (3, j 3), (4, j 4), (5, j 5), (6, j 6), (7, j 7)])
def rfl_takeTable_408 (v1 : Int) (m : mR) : Option (Int × mR) :=
  bnd (rf_takeElse v1 m) fun y11 =>
  rfl_takeTable_413 v1 y11.2
theorem dg_takeTable_408 (w : wX) (c : Nat → Option am_C) (N D : Nat) (bb : Nat) (v1 : Int) (q1 : R32 v1) (m : mR) (hm : Cn m) (j : Nat → Int) : PP bb w D pm_275 (408, [(0, .ref 189), (1, .int (i32 v1)), (2, .int (i32 (j 2))), (3, .int (i32 (j 3))), (4, .int (i32 (j 4))), (5, .int (i32 (j 5))), (6, .int (i32 (j 6))), (7, .int (i32 (j 7)))], [], (mhp m c, N), 0, 0) (QS (FR0 c N) (rfl_takeTable_408 v1 m)) := by
  unfold rfl_takeTable_408
  show PP bb w D pm_275 (408, [(0, .ref 189), (1, .int (i32 v1)), (2, .int (i32 (j 2))), (3, .int (i32 (j 3))), (4, .int (i32 (j 4))), (5, .int (i32 (j 5))), (6, .int (i32 (j 6))), (7, .int (i32 (j 7)))], [], (mhp (mO m [] []) c, N), 0, 0) _
  refine P_ld 409 (.ref 189) rfl (fun _ => rfl) ?_
  refine P_ld 410 (.int (i32 v1)) rfl (fun _ => rfl) ?_
  refine P_ca0 413 277 [.ref 189, .int (i32 v1)] [] rfl (fun _ => rfl) rfl (D_takeElse w m c N D hm v1 q1) (fun y11 n13 => ?_)
  exact dg_takeTable_413 w c N D bb v1 q1 y11.2 n13 (jk [(2, j 2), (3, j 3), (4, j 4), (5, j 5), (6, j 6), (7, j 7)])
def rfl_takeTable_402 (v1 : Int) (u1 : Int) (u2 : Int) (m : mR) : Option (Int × mR) :=
  bnd (rf_takeList v1 (mO m [] [(58, upI (m.2 58) u1 (nar1 u2))])) fun y14 =>
  rfl_takeTable_408 v1 y14.2
theorem dg_takeTable_402 (w : wX) (c : Nat → Option am_C) (N D : Nat) (bb : Nat) (v1 : Int) (u1 : Int) (u2 : Int) (q1 : R32 v1) (r1 : R32 u1) (r2 : R32 u2) (m : mR) (hm : Cn m) (j : Nat → Int) : PP bb w D pm_275 (402, [(0, .ref 189), (1, .int (i32 v1)), (2, .int (i32 (j 2))), (3, .int (i32 (j 3))), (4, .int (i32 (j 4))), (5, .int (i32 (j 5))), (6, .int (i32 (j 6))), (7, .int (i32 (j 7)))], [.int (i32 u2), .int (i32 u1), .ref 228], (mhp m c, N), 0, 0) (QS (FR0 c N) (rfl_takeTable_402 v1 u1 u2 m)) := by
  unfold rfl_takeTable_402
  show PP bb w D pm_275 (402, [(0, .ref 189), (1, .int (i32 v1)), (2, .int (i32 (j 2))), (3, .int (i32 (j 3))), (4, .int (i32 (j 4))), (5, .int (i32 (j 5))), (6, .int (i32 (j 6))), (7, .int (i32 (j 7)))], [.int (i32 u2), .int (i32 u1), .ref 228], (mhp (mO m [] []) c, N), 0, 0) _
  refine P_bast2 (a' := [(58, upI (m.2 58) u1 (nar1 u2))]) 403 58 (m.2 58) rfl rfl rfl r1 rfl rfl ?_
  refine P_ld 404 (.ref 189) rfl (fun _ => rfl) ?_
  refine P_ld 405 (.int (i32 v1)) rfl (fun _ => rfl) ?_
  refine P_ca0 408 276 [.ref 189, .int (i32 v1)] [] rfl (fun _ => rfl) rfl (D_takeList w (mO m [] [(58, upI (m.2 58) u1 (nar1 u2))]) c N D (Cn_mO hm trivial ⟨(rE_ui (Cn_a hm 58) rfl t32_r), trivial⟩) v1 q1) (fun y14 n16 => ?_)
  exact dg_takeTable_408 w c N D bb v1 q1 y14.2 n16 (jk [(2, j 2), (3, j 3), (4, j 4), (5, j 5), (6, j 6), (7, j 7)])
def rfl_takeTable_401 (v1 : Int) (u1 : Int) (m : mR) : Option (Int × mR) :=
  rfl_takeTable_402 v1 u1 0 m
theorem dg_takeTable_401 (w : wX) (c : Nat → Option am_C) (N D : Nat) (bb : Nat) (v1 : Int) (u1 : Int) (q1 : R32 v1) (r1 : R32 u1) (m : mR) (hm : Cn m) (j : Nat → Int) : PP bb w D pm_275 (401, [(0, .ref 189), (1, .int (i32 v1)), (2, .int (i32 (j 2))), (3, .int (i32 (j 3))), (4, .int (i32 (j 4))), (5, .int (i32 (j 5))), (6, .int (i32 (j 6))), (7, .int (i32 (j 7)))], [.int (i32 u1), .ref 228], (mhp m c, N), 0, 0) (QS (FR0 c N) (rfl_takeTable_401 v1 u1 m)) := by
  unfold rfl_takeTable_401
  show PP bb w D pm_275 (401, [(0, .ref 189), (1, .int (i32 v1)), (2, .int (i32 (j 2))), (3, .int (i32 (j 3))), (4, .int (i32 (j 4))), (5, .int (i32 (j 5))), (6, .int (i32 (j 6))), (7, .int (i32 (j 7)))], [.int (i32 u1), .ref 228], (mhp (mO m [] []) c, N), 0, 0) _
  refine P_ld 402 (.int (i32 0)) rfl (fun _ => rfl) ?_
  exact dg_takeTable_402 w c N D bb v1 u1 0 q1 r1 (l32 0 rfl) m hm (jk [(2, j 2), (3, j 3), (4, j 4), (5, j 5), (6, j 6), (7, j 7)])
def rfl_takeTable_384 (v1 : Int) (v2 : Int) (v3 : Int) (m : mR) : Option (Int × mR) :=
  if v2 = 0 then
    if v3 = 0 then
      rfl_takeTable_402 v1 v1 1 m
    else
      rfl_takeTable_401 v1 v1 m
  else
    rfl_takeTable_401 v1 v1 m
theorem dg_takeTable_384 (w : wX) (c : Nat → Option am_C) (N D : Nat) (bb : Nat) (v1 : Int) (v2 : Int) (v3 : Int) (q1 : R32 v1) (q2 : R32 v2) (q3 : R32 v3) (m : mR) (hm : Cn m) (j : Nat → Int) : PP bb w D pm_275 (384, [(0, .ref 189), (1, .int (i32 v1)), (2, .int (i32 v2)), (3, .int (i32 v3)), (4, .int (i32 (j 4))), (5, .int (i32 (j 5))), (6, .int (i32 (j 6))), (7, .int (i32 (j 7)))], [], (mhp m c, N), 0, 0) (QS (FR0 c N) (rfl_takeTable_384 v1 v2 v3 m)) := by
  unfold rfl_takeTable_384
  show PP bb w D pm_275 (384, [(0, .ref 189), (1, .int (i32 v1)), (2, .int (i32 v2)), (3, .int (i32 v3)), (4, .int (i32 (j 4))), (5, .int (i32 (j 5))), (6, .int (i32 (j 6))), (7, .int (i32 (j 7)))], [], (mhp (mO m [] []) c, N), 0, 0) _
  refine P_gf 388 (.ref 228) rfl rfl rfl rfl rfl rfl ?_
  refine P_ld 389 (.int (i32 v1)) rfl (fun _ => rfl) ?_
  refine P_ld 390 (.int (i32 v2)) rfl (fun _ => rfl) ?_
  refine P_ifE 401 393 rfl rfl rfl q2 rfl (fun h17 => ?_) (fun h17 => ?_)
  · skip
    refine P_ld 394 (.int (i32 v3)) rfl (fun _ => rfl) ?_
    refine P_ifE 401 397 rfl rfl rfl q3 rfl (fun h18 => ?_) (fun h18 => ?_)
    · skip
      refine P_ld 398 (.int (i32 1)) rfl (fun _ => rfl) ?_
      refine P_goto 402 rfl (fun _ => rfl) ?_
      exact dg_takeTable_402 w c N D bb v1 v1 1 q1 q1 (l32 1 rfl) m hm (jk [(2, v2), (3, v3), (4, j 4), (5, j 5), (6, j 6), (7, j 7)])
    · skip
      exact dg_takeTable_401 w c N D bb v1 v1 q1 q1 m hm (jk [(2, v2), (3, v3), (4, j 4), (5, j 5), (6, j 6), (7, j 7)])
  · skip
    exact dg_takeTable_401 w c N D bb v1 v1 q1 q1 m hm (jk [(2, v2), (3, v3), (4, j 4), (5, j 5), (6, j 6), (7, j 7)])
def rfl_takeTable_360 (v1 : Int) (v2 : Int) (v3 : Int) (v5 : Int) (m : mR) : Option (Sum (Int × Int × mR) (Sum (mR) (Int × Int × mR))) :=
  some (.inl (v2, v3, (mO m [] [(51, upI (m.2 51) v1 (cut (((m.2 51) v1) + 1))), (52, upI (m.2 52) v1 (cut (((m.2 52) v1) + v5)))])))
theorem dg_takeTable_360 (w : wX) (c : Nat → Option am_C) (N D : Nat) (bb : Nat) (v1 : Int) (v2 : Int) (v3 : Int) (v5 : Int) (q1 : R32 v1) (q2 : R32 v2) (q3 : R32 v3) (q5 : R32 v5) (m : mR) (hm : Cn m) (j : Nat → Int) (Q2 : Sum (Int × Int × mR) (Sum (mR) (Int × Int × mR)) → ag_Re af_T → Prop) (H1 : ∀ s j, cs_takeTable_101 s → PP bb w D pm_275 (hd_takeTable_101 c N v1 s j) (Q2 (.inl s))) (H2 : ∀ x j, cx_takeTable_101 x → PP bb w D pm_275 (ex_takeTable_101 c N v1 x j) (Q2 (.inr x))) : PP bb w D pm_275 (360, [(0, .ref 189), (1, .int (i32 v1)), (2, .int (i32 v2)), (3, .int (i32 v3)), (4, .int (i32 (j 4))), (5, .int (i32 v5)), (6, .int (i32 (j 6))), (7, .int (i32 (j 7)))], [], (mhp m c, N), 0, 0) (QS Q2 (rfl_takeTable_360 v1 v2 v3 v5 m)) := by
  unfold rfl_takeTable_360
  show PP bb w D pm_275 (360, [(0, .ref 189), (1, .int (i32 v1)), (2, .int (i32 v2)), (3, .int (i32 v3)), (4, .int (i32 (j 4))), (5, .int (i32 v5)), (6, .int (i32 (j 6))), (7, .int (i32 (j 7)))], [], (mhp (mO m [] []) c, N), 0, 0) _
  refine P_gf 364 (.ref 221) rfl rfl rfl rfl rfl rfl ?_
  refine P_ld 365 (.int (i32 v1)) rfl (fun _ => rfl) ?_
  refine P_dup2 366 rfl (fun _ => rfl) ?_
  refine P_iald2 367 51 (m.2 51) rfl rfl rfl q1 rfl ?_
  refine P_ld 368 (.int (i32 1)) rfl (fun _ => rfl) ?_
  refine P_op 369 (cut (((m.2 51) v1) + 1)) _ rfl (fun _ => rfl) o_add ?_
  refine P_iast2 (a' := [(51, upI (m.2 51) v1 (cut (((m.2 51) v1) + 1)))]) 370 51 (m.2 51) rfl rfl rfl q1 rfl rfl ?_
  refine P_gf 374 (.ref 222) rfl rfl rfl rfl rfl rfl ?_
  refine P_ld 375 (.int (i32 v1)) rfl (fun _ => rfl) ?_
  refine P_dup2 376 rfl (fun _ => rfl) ?_
  refine P_iald2 377 52 (m.2 52) rfl rfl rfl q1 rfl ?_
  refine P_ld 379 (.int (i32 v5)) rfl (fun _ => rfl) ?_
  refine P_op 380 (cut (((m.2 52) v1) + v5)) _ rfl (fun _ => rfl) o_add ?_
  refine P_iast2 (a' := [(51, upI (m.2 51) v1 (cut (((m.2 51) v1) + 1))), (52, upI (m.2 52) v1 (cut (((m.2 52) v1) + v5)))]) 381 52 (m.2 52) rfl rfl rfl q1 rfl rfl ?_
  refine P_goto 101 rfl (fun _ => rfl) ?_
  refine P_some ?_
  exact H1 (v2, v3, (mO m [] [(51, upI (m.2 51) v1 (cut (((m.2 51) v1) + 1))), (52, upI (m.2 52) v1 (cut (((m.2 52) v1) + v5)))])) (jk [(4, j 4), (5, v5), (6, j 6), (7, j 7)]) ⟨q2, q3, (Cn_mO hm trivial ⟨(rE_ui (Cn_a hm 51) rfl cut_r), (rE_ui (Cn_a hm 52) rfl cut_r), trivial⟩)⟩
def rfl_takeTable_353 (v1 : Int) (v2 : Int) (v5 : Int) (u0 : Int) (m : mR) : Option (Sum (Int × Int × mR) (Sum (mR) (Int × Int × mR))) :=
  bnd (rf_need 59 m) fun y19 =>
  rfl_takeTable_360 v1 v2 u0 v5 y19.2
theorem dg_takeTable_353 (w : wX) (c : Nat → Option am_C) (N D : Nat) (bb : Nat) (v1 : Int) (v2 : Int) (v5 : Int) (u0 : Int) (q1 : R32 v1) (q2 : R32 v2) (q5 : R32 v5) (r0 : R32 u0) (m : mR) (hm : Cn m) (j : Nat → Int) (Q2 : Sum (Int × Int × mR) (Sum (mR) (Int × Int × mR)) → ag_Re af_T → Prop) (H1 : ∀ s j, cs_takeTable_101 s → PP bb w D pm_275 (hd_takeTable_101 c N v1 s j) (Q2 (.inl s))) (H2 : ∀ x j, cx_takeTable_101 x → PP bb w D pm_275 (ex_takeTable_101 c N v1 x j) (Q2 (.inr x))) : PP bb w D pm_275 (353, [(0, .ref 189), (1, .int (i32 v1)), (2, .int (i32 v2)), (3, .int (i32 (j 3))), (4, .int (i32 (j 4))), (5, .int (i32 v5)), (6, .int (i32 (j 6))), (7, .int (i32 (j 7)))], [.int (i32 u0)], (mhp m c, N), 0, 0) (QS Q2 (rfl_takeTable_353 v1 v2 v5 u0 m)) := by
  unfold rfl_takeTable_353
  show PP bb w D pm_275 (353, [(0, .ref 189), (1, .int (i32 v1)), (2, .int (i32 v2)), (3, .int (i32 (j 3))), (4, .int (i32 (j 4))), (5, .int (i32 v5)), (6, .int (i32 (j 6))), (7, .int (i32 (j 7)))], [.int (i32 u0)], (mhp (mO m [] []) c, N), 0, 0) _
  refine P_sto 354 [(3, .int (i32 u0)), (0, .ref 189), (1, .int (i32 v1)), (2, .int (i32 v2)), (4, .int (i32 (j 4))), (5, .int (i32 v5)), (6, .int (i32 (j 6))), (7, .int (i32 (j 7)))] rfl (fun _ => rfl) ?_
  refine P_ld 355 (.ref 189) rfl (fun _ => rfl) ?_
  refine P_ld 357 (.int (i32 59)) rfl (fun _ => rfl) ?_
  refine P_ca0 360 232 [.ref 189, .int (i32 59)] [] rfl (fun _ => rfl) rfl (D_need w m c N D hm 59 (l32 59 rfl)) (fun y19 n21 => ?_)
  refine P_lv (b := [(0, .ref 189), (1, .int (i32 v1)), (2, .int (i32 v2)), (3, .int (i32 u0)), (4, .int (i32 (j 4))), (5, .int (i32 v5)), (6, .int (i32 (j 6))), (7, .int (i32 (j 7)))]) rfl rfl ⟨rfl, rfl, rfl, rfl, rfl, rfl, rfl, rfl, trivial⟩ ?_
  exact dg_takeTable_360 w c N D bb v1 v2 u0 v5 q1 q2 r0 q5 y19.2 n21 (jk [(4, j 4), (6, j 6), (7, j 7)]) Q2 H1 H2
def rfl_takeTable_348 (v1 : Int) (v2 : Int) (v5 : Int) (m : mR) : Option (Sum (Int × Int × mR) (Sum (mR) (Int × Int × mR))) :=
  rfl_takeTable_353 v1 v2 v5 1 m
theorem dg_takeTable_348 (w : wX) (c : Nat → Option am_C) (N D : Nat) (bb : Nat) (v1 : Int) (v2 : Int) (v5 : Int) (q1 : R32 v1) (q2 : R32 v2) (q5 : R32 v5) (m : mR) (hm : Cn m) (j : Nat → Int) (Q2 : Sum (Int × Int × mR) (Sum (mR) (Int × Int × mR)) → ag_Re af_T → Prop) (H1 : ∀ s j, cs_takeTable_101 s → PP bb w D pm_275 (hd_takeTable_101 c N v1 s j) (Q2 (.inl s))) (H2 : ∀ x j, cx_takeTable_101 x → PP bb w D pm_275 (ex_takeTable_101 c N v1 x j) (Q2 (.inr x))) : PP bb w D pm_275 (348, [(0, .ref 189), (1, .int (i32 v1)), (2, .int (i32 v2)), (3, .int (i32 (j 3))), (4, .int (i32 (j 4))), (5, .int (i32 v5)), (6, .int (i32 (j 6))), (7, .int (i32 (j 7)))], [], (mhp m c, N), 0, 0) (QS Q2 (rfl_takeTable_348 v1 v2 v5 m)) := by
  unfold rfl_takeTable_348
  show PP bb w D pm_275 (348, [(0, .ref 189), (1, .int (i32 v1)), (2, .int (i32 v2)), (3, .int (i32 (j 3))), (4, .int (i32 (j 4))), (5, .int (i32 v5)), (6, .int (i32 (j 6))), (7, .int (i32 (j 7)))], [], (mhp (mO m [] []) c, N), 0, 0) _
  refine P_ld 349 (.int (i32 1)) rfl (fun _ => rfl) ?_
  refine P_goto 353 rfl (fun _ => rfl) ?_
  exact dg_takeTable_353 w c N D bb v1 v2 v5 1 q1 q2 q5 (l32 1 rfl) m hm (jk [(3, j 3), (4, j 4), (6, j 6), (7, j 7)]) Q2 H1 H2
def rfl_takeTable_335 (v1 : Int) (v3 : Int) (v5 : Int) (v7 : Int) (u0 : Int) (m : mR) : Option (Sum (Int × Int × mR) (Sum (mR) (Int × Int × mR))) :=
  if v3 = 0 then
    if v7 = 314 then
      rfl_takeTable_348 v1 u0 v5 m
    else
      rfl_takeTable_353 v1 u0 v5 0 m
  else
    rfl_takeTable_348 v1 u0 v5 m
theorem dg_takeTable_335 (w : wX) (c : Nat → Option am_C) (N D : Nat) (bb : Nat) (v1 : Int) (v3 : Int) (v5 : Int) (v7 : Int) (u0 : Int) (q1 : R32 v1) (q3 : R32 v3) (q5 : R32 v5) (q7 : R32 v7) (r0 : R32 u0) (m : mR) (hm : Cn m) (j : Nat → Int) (Q2 : Sum (Int × Int × mR) (Sum (mR) (Int × Int × mR)) → ag_Re af_T → Prop) (H1 : ∀ s j, cs_takeTable_101 s → PP bb w D pm_275 (hd_takeTable_101 c N v1 s j) (Q2 (.inl s))) (H2 : ∀ x j, cx_takeTable_101 x → PP bb w D pm_275 (ex_takeTable_101 c N v1 x j) (Q2 (.inr x))) : PP bb w D pm_275 (335, [(0, .ref 189), (1, .int (i32 v1)), (2, .int (i32 (j 2))), (3, .int (i32 v3)), (4, .int (i32 (j 4))), (5, .int (i32 v5)), (6, .int (i32 (j 6))), (7, .int (i32 v7))], [.int (i32 u0)], (mhp m c, N), 0, 0) (QS Q2 (rfl_takeTable_335 v1 v3 v5 v7 u0 m)) := by
  unfold rfl_takeTable_335
  show PP bb w D pm_275 (335, [(0, .ref 189), (1, .int (i32 v1)), (2, .int (i32 (j 2))), (3, .int (i32 v3)), (4, .int (i32 (j 4))), (5, .int (i32 v5)), (6, .int (i32 (j 6))), (7, .int (i32 v7))], [.int (i32 u0)], (mhp (mO m [] []) c, N), 0, 0) _
  refine P_sto 336 [(2, .int (i32 u0)), (0, .ref 189), (1, .int (i32 v1)), (3, .int (i32 v3)), (4, .int (i32 (j 4))), (5, .int (i32 v5)), (6, .int (i32 (j 6))), (7, .int (i32 v7))] rfl (fun _ => rfl) ?_
  refine P_ld 337 (.int (i32 v3)) rfl (fun _ => rfl) ?_
  refine P_ifE 348 340 rfl rfl rfl q3 rfl (fun h22 => ?_) (fun h22 => ?_)
  · skip
    refine P_ld 342 (.int (i32 v7)) rfl (fun _ => rfl) ?_
    refine P_ld 345 (.int (i32 314)) rfl (fun _ => rfl) ?_
    refine P_icE 352 348 rfl rfl rfl q7 (l32 314 rfl) rfl (fun h23 => ?_) (fun h23 => ?_)
    · skip
      refine P_lv (b := [(0, .ref 189), (1, .int (i32 v1)), (2, .int (i32 u0)), (3, .int (i32 v3)), (4, .int (i32 (j 4))), (5, .int (i32 v5)), (6, .int (i32 (j 6))), (7, .int (i32 v7))]) rfl rfl ⟨rfl, rfl, rfl, rfl, rfl, rfl, rfl, rfl, trivial⟩ ?_
      exact dg_takeTable_348 w c N D bb v1 u0 v5 q1 r0 q5 m hm (jk [(3, v3), (4, j 4), (6, j 6), (7, v7)]) Q2 H1 H2
    · skip
      refine P_ld 353 (.int (i32 0)) rfl (fun _ => rfl) ?_
      refine P_lv (b := [(0, .ref 189), (1, .int (i32 v1)), (2, .int (i32 u0)), (3, .int (i32 v3)), (4, .int (i32 (j 4))), (5, .int (i32 v5)), (6, .int (i32 (j 6))), (7, .int (i32 v7))]) rfl rfl ⟨rfl, rfl, rfl, rfl, rfl, rfl, rfl, rfl, trivial⟩ ?_
      exact dg_takeTable_353 w c N D bb v1 u0 v5 0 q1 r0 q5 (l32 0 rfl) m hm (jk [(3, v3), (4, j 4), (6, j 6), (7, v7)]) Q2 H1 H2
  · skip
    refine P_lv (b := [(0, .ref 189), (1, .int (i32 v1)), (2, .int (i32 u0)), (3, .int (i32 v3)), (4, .int (i32 (j 4))), (5, .int (i32 v5)), (6, .int (i32 (j 6))), (7, .int (i32 v7))]) rfl rfl ⟨rfl, rfl, rfl, rfl, rfl, rfl, rfl, rfl, trivial⟩ ?_
    exact dg_takeTable_348 w c N D bb v1 u0 v5 q1 r0 q5 m hm (jk [(3, v3), (4, j 4), (6, j 6), (7, v7)]) Q2 H1 H2
def rfl_takeTable_330 (v1 : Int) (v3 : Int) (v5 : Int) (v7 : Int) (m : mR) : Option (Sum (Int × Int × mR) (Sum (mR) (Int × Int × mR))) :=
  rfl_takeTable_335 v1 v3 v5 v7 1 m
theorem dg_takeTable_330 (w : wX) (c : Nat → Option am_C) (N D : Nat) (bb : Nat) (v1 : Int) (v3 : Int) (v5 : Int) (v7 : Int) (q1 : R32 v1) (q3 : R32 v3) (q5 : R32 v5) (q7 : R32 v7) (m : mR) (hm : Cn m) (j : Nat → Int) (Q2 : Sum (Int × Int × mR) (Sum (mR) (Int × Int × mR)) → ag_Re af_T → Prop) (H1 : ∀ s j, cs_takeTable_101 s → PP bb w D pm_275 (hd_takeTable_101 c N v1 s j) (Q2 (.inl s))) (H2 : ∀ x j, cx_takeTable_101 x → PP bb w D pm_275 (ex_takeTable_101 c N v1 x j) (Q2 (.inr x))) : PP bb w D pm_275 (330, [(0, .ref 189), (1, .int (i32 v1)), (2, .int (i32 (j 2))), (3, .int (i32 v3)), (4, .int (i32 (j 4))), (5, .int (i32 v5)), (6, .int (i32 (j 6))), (7, .int (i32 v7))], [], (mhp m c, N), 0, 0) (QS Q2 (rfl_takeTable_330 v1 v3 v5 v7 m)) := by
  unfold rfl_takeTable_330
  show PP bb w D pm_275 (330, [(0, .ref 189), (1, .int (i32 v1)), (2, .int (i32 (j 2))), (3, .int (i32 v3)), (4, .int (i32 (j 4))), (5, .int (i32 v5)), (6, .int (i32 (j 6))), (7, .int (i32 v7))], [], (mhp (mO m [] []) c, N), 0, 0) _
  refine P_ld 331 (.int (i32 1)) rfl (fun _ => rfl) ?_
  refine P_goto 335 rfl (fun _ => rfl) ?_
  exact dg_takeTable_335 w c N D bb v1 v3 v5 v7 1 q1 q3 q5 q7 (l32 1 rfl) m hm (jk [(2, j 2), (4, j 4), (6, j 6)]) Q2 H1 H2
def rfl_takeTable_309 (v1 : Int) (v2 : Int) (v3 : Int) (v4 : Int) (v5 : Int) (v7 : Int) (m : mR) : Option (Sum (Int × Int × mR) (Sum (mR) (Int × Int × mR))) :=
  if v2 = 0 then
    if v7 = 313 then
      rfl_takeTable_330 v1 v3 v5 v7 (mO m [] [(113, upI (m.2 113) v4 v7)])
    else
      rfl_takeTable_335 v1 v3 v5 v7 0 (mO m [] [(113, upI (m.2 113) v4 v7)])
  else
    rfl_takeTable_330 v1 v3 v5 v7 (mO m [] [(113, upI (m.2 113) v4 v7)])
theorem dg_takeTable_309 (w : wX) (c : Nat → Option am_C) (N D : Nat) (bb : Nat) (v1 : Int) (v2 : Int) (v3 : Int) (v4 : Int) (v5 : Int) (v7 : Int) (q1 : R32 v1) (q2 : R32 v2) (q3 : R32 v3) (q4 : R32 v4) (q5 : R32 v5) (q7 : R32 v7) (m : mR) (hm : Cn m) (j : Nat → Int) (Q2 : Sum (Int × Int × mR) (Sum (mR) (Int × Int × mR)) → ag_Re af_T → Prop) (H1 : ∀ s j, cs_takeTable_101 s → PP bb w D pm_275 (hd_takeTable_101 c N v1 s j) (Q2 (.inl s))) (H2 : ∀ x j, cx_takeTable_101 x → PP bb w D pm_275 (ex_takeTable_101 c N v1 x j) (Q2 (.inr x))) : PP bb w D pm_275 (309, [(0, .ref 189), (1, .int (i32 v1)), (2, .int (i32 v2)), (3, .int (i32 v3)), (4, .int (i32 v4)), (5, .int (i32 v5)), (6, .int (i32 (j 6))), (7, .int (i32 v7))], [], (mhp m c, N), 0, 0) (QS Q2 (rfl_takeTable_309 v1 v2 v3 v4 v5 v7 m)) := by
  unfold rfl_takeTable_309
  show PP bb w D pm_275 (309, [(0, .ref 189), (1, .int (i32 v1)), (2, .int (i32 v2)), (3, .int (i32 v3)), (4, .int (i32 v4)), (5, .int (i32 v5)), (6, .int (i32 (j 6))), (7, .int (i32 v7))], [], (mhp (mO m [] []) c, N), 0, 0) _
  refine P_gf 313 (.ref 273) rfl rfl rfl rfl rfl rfl ?_
  refine P_ld 315 (.int (i32 v4)) rfl (fun _ => rfl) ?_
  refine P_ld 317 (.int (i32 v7)) rfl (fun _ => rfl) ?_
  refine P_iast2 (a' := [(113, upI (m.2 113) v4 v7)]) 318 113 (m.2 113) rfl rfl rfl q4 rfl rfl ?_
  refine P_ld 319 (.int (i32 v2)) rfl (fun _ => rfl) ?_
  refine P_ifE 330 322 rfl rfl rfl q2 rfl (fun h24 => ?_) (fun h24 => ?_)
  · skip
    refine P_ld 324 (.int (i32 v7)) rfl (fun _ => rfl) ?_
    refine P_ld 327 (.int (i32 313)) rfl (fun _ => rfl) ?_
    refine P_icE 334 330 rfl rfl rfl q7 (l32 313 rfl) rfl (fun h25 => ?_) (fun h25 => ?_)
    · skip
      exact dg_takeTable_330 w c N D bb v1 v3 v5 v7 q1 q3 q5 q7 (mO m [] [(113, upI (m.2 113) v4 v7)]) (Cn_mO hm trivial ⟨(rE_ui (Cn_a hm 113) rfl q7), trivial⟩) (jk [(2, v2), (4, v4), (6, j 6)]) Q2 H1 H2
    · skip
      refine P_ld 335 (.int (i32 0)) rfl (fun _ => rfl) ?_
      exact dg_takeTable_335 w c N D bb v1 v3 v5 v7 0 q1 q3 q5 q7 (l32 0 rfl) (mO m [] [(113, upI (m.2 113) v4 v7)]) (Cn_mO hm trivial ⟨(rE_ui (Cn_a hm 113) rfl q7), trivial⟩) (jk [(2, v2), (4, v4), (6, j 6)]) Q2 H1 H2
  · skip
    exact dg_takeTable_330 w c N D bb v1 v3 v5 v7 q1 q3 q5 q7 (mO m [] [(113, upI (m.2 113) v4 v7)]) (Cn_mO hm trivial ⟨(rE_ui (Cn_a hm 113) rfl q7), trivial⟩) (jk [(2, v2), (4, v4), (6, j 6)]) Q2 H1 H2
def rfl_takeTable_301 (v1 : Int) (v2 : Int) (v3 : Int) (v4 : Int) (v5 : Int) (v6 : Int) (v7 : Int) (m : mR) : Option (Sum (Int × Int × mR) (Sum (mR) (Int × Int × mR))) :=
  bnd (rf_wrong 8 v6 m) fun y26 =>
  rfl_takeTable_309 v1 v2 v3 v4 v5 v7 y26.2
theorem dg_takeTable_301 (w : wX) (c : Nat → Option am_C) (N D : Nat) (bb : Nat) (v1 : Int) (v2 : Int) (v3 : Int) (v4 : Int) (v5 : Int) (v6 : Int) (v7 : Int) (q1 : R32 v1) (q2 : R32 v2) (q3 : R32 v3) (q4 : R32 v4) (q5 : R32 v5) (q6 : R32 v6) (q7 : R32 v7) (m : mR) (hm : Cn m) (j : Nat → Int) (Q2 : Sum (Int × Int × mR) (Sum (mR) (Int × Int × mR)) → ag_Re af_T → Prop) (H1 : ∀ s j, cs_takeTable_101 s → PP bb w D pm_275 (hd_takeTable_101 c N v1 s j) (Q2 (.inl s))) (H2 : ∀ x j, cx_takeTable_101 x → PP bb w D pm_275 (ex_takeTable_101 c N v1 x j) (Q2 (.inr x))) : PP bb w D pm_275 (301, [(0, .ref 189), (1, .int (i32 v1)), (2, .int (i32 v2)), (3, .int (i32 v3)), (4, .int (i32 v4)), (5, .int (i32 v5)), (6, .int (i32 v6)), (7, .int (i32 v7))], [], (mhp m c, N), 0, 0) (QS Q2 (rfl_takeTable_301 v1 v2 v3 v4 v5 v6 v7 m)) := by
  unfold rfl_takeTable_301
  show PP bb w D pm_275 (301, [(0, .ref 189), (1, .int (i32 v1)), (2, .int (i32 v2)), (3, .int (i32 v3)), (4, .int (i32 v4)), (5, .int (i32 v5)), (6, .int (i32 v6)), (7, .int (i32 v7))], [], (mhp (mO m [] []) c, N), 0, 0) _
  refine P_ld 302 (.ref 189) rfl (fun _ => rfl) ?_
  refine P_ld 304 (.int (i32 8)) rfl (fun _ => rfl) ?_
  refine P_ld 306 (.int (i32 v6)) rfl (fun _ => rfl) ?_
  refine P_ca0 309 222 [.ref 189, .int (i32 8), .int (i32 v6)] [] rfl (fun _ => rfl) rfl (D_wrong w m c N D hm 8 v6 (l32 8 rfl) q6) (fun y26 n28 => ?_)
  exact dg_takeTable_309 w c N D bb v1 v2 v3 v4 v5 v7 q1 q2 q3 q4 q5 q7 y26.2 n28 (jk [(6, v6)]) Q2 H1 H2
def rfl_takeTable_289 (v1 : Int) (v2 : Int) (v3 : Int) (v4 : Int) (v5 : Int) (v6 : Int) (v7 : Int) (m : mR) : Option (Sum (Int × Int × mR) (Sum (mR) (Int × Int × mR))) :=
  if v7 = 314 then
    if v2 = 0 then
      rfl_takeTable_309 v1 v2 v3 v4 v5 v7 m
    else
      rfl_takeTable_301 v1 v2 v3 v4 v5 v6 v7 m
  else
    rfl_takeTable_309 v1 v2 v3 v4 v5 v7 m
theorem dg_takeTable_289 (w : wX) (c : Nat → Option am_C) (N D : Nat) (bb : Nat) (v1 : Int) (v2 : Int) (v3 : Int) (v4 : Int) (v5 : Int) (v6 : Int) (v7 : Int) (q1 : R32 v1) (q2 : R32 v2) (q3 : R32 v3) (q4 : R32 v4) (q5 : R32 v5) (q6 : R32 v6) (q7 : R32 v7) (m : mR) (hm : Cn m) (j : Nat → Int) (Q2 : Sum (Int × Int × mR) (Sum (mR) (Int × Int × mR)) → ag_Re af_T → Prop) (H1 : ∀ s j, cs_takeTable_101 s → PP bb w D pm_275 (hd_takeTable_101 c N v1 s j) (Q2 (.inl s))) (H2 : ∀ x j, cx_takeTable_101 x → PP bb w D pm_275 (ex_takeTable_101 c N v1 x j) (Q2 (.inr x))) : PP bb w D pm_275 (289, [(0, .ref 189), (1, .int (i32 v1)), (2, .int (i32 v2)), (3, .int (i32 v3)), (4, .int (i32 v4)), (5, .int (i32 v5)), (6, .int (i32 v6)), (7, .int (i32 v7))], [], (mhp m c, N), 0, 0) (QS Q2 (rfl_takeTable_289 v1 v2 v3 v4 v5 v6 v7 m)) := by
  unfold rfl_takeTable_289
  show PP bb w D pm_275 (289, [(0, .ref 189), (1, .int (i32 v1)), (2, .int (i32 v2)), (3, .int (i32 v3)), (4, .int (i32 v4)), (5, .int (i32 v5)), (6, .int (i32 v6)), (7, .int (i32 v7))], [], (mhp (mO m [] []) c, N), 0, 0) _
  refine P_ld 291 (.int (i32 v7)) rfl (fun _ => rfl) ?_
  refine P_ld 294 (.int (i32 314)) rfl (fun _ => rfl) ?_
  refine P_icE 309 297 rfl rfl rfl q7 (l32 314 rfl) rfl (fun h29 => ?_) (fun h29 => ?_)
  · skip
    refine P_ld 298 (.int (i32 v2)) rfl (fun _ => rfl) ?_
    refine P_ifF 309 301 rfl rfl rfl q2 rfl (fun h30 => ?_) (fun h30 => ?_)
    · skip
      exact dg_takeTable_309 w c N D bb v1 v2 v3 v4 v5 v7 q1 q2 q3 q4 q5 q7 m hm (jk [(6, v6)]) Q2 H1 H2
    · skip
      exact dg_takeTable_301 w c N D bb v1 v2 v3 v4 v5 v6 v7 q1 q2 q3 q4 q5 q6 q7 m hm (jk []) Q2 H1 H2
  · skip
    exact dg_takeTable_309 w c N D bb v1 v2 v3 v4 v5 v7 q1 q2 q3 q4 q5 q7 m hm (jk [(6, v6)]) Q2 H1 H2
def rfl_takeTable_266 (v1 : Int) (v2 : Int) (v3 : Int) (v4 : Int) (v5 : Int) (v6 : Int) (v7 : Int) (m : mR) : Option (Sum (Int × Int × mR) (Sum (mR) (Int × Int × mR))) :=
  if m.1 10 = 0 then
    if v7 = 313 then
      if v2 = 0 then
        if v3 = 0 then
          rfl_takeTable_289 v1 v2 v3 v4 v5 v6 v7 m
        else
          rfl_takeTable_301 v1 v2 v3 v4 v5 v6 v7 m
      else
        rfl_takeTable_301 v1 v2 v3 v4 v5 v6 v7 m
    else
      rfl_takeTable_289 v1 v2 v3 v4 v5 v6 v7 m
  else
    rfl_takeTable_309 v1 v2 v3 v4 v5 v7 m
theorem dg_takeTable_266 (w : wX) (c : Nat → Option am_C) (N D : Nat) (bb : Nat) (v1 : Int) (v2 : Int) (v3 : Int) (v4 : Int) (v5 : Int) (v6 : Int) (v7 : Int) (q1 : R32 v1) (q2 : R32 v2) (q3 : R32 v3) (q4 : R32 v4) (q5 : R32 v5) (q6 : R32 v6) (q7 : R32 v7) (m : mR) (hm : Cn m) (j : Nat → Int) (Q2 : Sum (Int × Int × mR) (Sum (mR) (Int × Int × mR)) → ag_Re af_T → Prop) (H1 : ∀ s j, cs_takeTable_101 s → PP bb w D pm_275 (hd_takeTable_101 c N v1 s j) (Q2 (.inl s))) (H2 : ∀ x j, cx_takeTable_101 x → PP bb w D pm_275 (ex_takeTable_101 c N v1 x j) (Q2 (.inr x))) : PP bb w D pm_275 (266, [(0, .ref 189), (1, .int (i32 v1)), (2, .int (i32 v2)), (3, .int (i32 v3)), (4, .int (i32 v4)), (5, .int (i32 v5)), (6, .int (i32 v6)), (7, .int (i32 v7))], [], (mhp m c, N), 0, 0) (QS Q2 (rfl_takeTable_266 v1 v2 v3 v4 v5 v6 v7 m)) := by
  unfold rfl_takeTable_266
  show PP bb w D pm_275 (266, [(0, .ref 189), (1, .int (i32 v1)), (2, .int (i32 v2)), (3, .int (i32 v3)), (4, .int (i32 v4)), (5, .int (i32 v5)), (6, .int (i32 v6)), (7, .int (i32 v7))], [], (mhp (mO m [] []) c, N), 0, 0) _
  refine P_gf 270 (.int (i32 (m.1 10))) rfl rfl rfl rfl rfl rfl ?_
  refine P_ifE 309 273 rfl rfl rfl (Cn_i hm 10 rfl) rfl (fun h31 => ?_) (fun h31 => ?_)
  · skip
    refine P_ld 275 (.int (i32 v7)) rfl (fun _ => rfl) ?_
    refine P_ld 278 (.int (i32 313)) rfl (fun _ => rfl) ?_
    refine P_icE 289 281 rfl rfl rfl q7 (l32 313 rfl) rfl (fun h32 => ?_) (fun h32 => ?_)
    · skip
      refine P_ld 282 (.int (i32 v2)) rfl (fun _ => rfl) ?_
      refine P_ifE 301 285 rfl rfl rfl q2 rfl (fun h33 => ?_) (fun h33 => ?_)
      · skip
        refine P_ld 286 (.int (i32 v3)) rfl (fun _ => rfl) ?_
        refine P_ifE 301 289 rfl rfl rfl q3 rfl (fun h34 => ?_) (fun h34 => ?_)
        · skip
          exact dg_takeTable_289 w c N D bb v1 v2 v3 v4 v5 v6 v7 q1 q2 q3 q4 q5 q6 q7 m hm (jk []) Q2 H1 H2
        · skip
          exact dg_takeTable_301 w c N D bb v1 v2 v3 v4 v5 v6 v7 q1 q2 q3 q4 q5 q6 q7 m hm (jk []) Q2 H1 H2
      · skip
        exact dg_takeTable_301 w c N D bb v1 v2 v3 v4 v5 v6 v7 q1 q2 q3 q4 q5 q6 q7 m hm (jk []) Q2 H1 H2
    · skip
      exact dg_takeTable_289 w c N D bb v1 v2 v3 v4 v5 v6 v7 q1 q2 q3 q4 q5 q6 q7 m hm (jk []) Q2 H1 H2
  · skip
    exact dg_takeTable_309 w c N D bb v1 v2 v3 v4 v5 v7 q1 q2 q3 q4 q5 q7 m hm (jk [(6, v6)]) Q2 H1 H2
def rfl_takeTable_262 (v1 : Int) (v2 : Int) (v3 : Int) (v4 : Int) (v5 : Int) (v6 : Int) (v7 : Int) (m : mR) : Option (Sum (Int × Int × mR) (Sum (mR) (Int × Int × mR))) :=
  bnd (rf_next m) fun y35 =>
  rfl_takeTable_266 v1 v2 v3 v4 v5 v6 v7 y35.2
theorem dg_takeTable_262 (w : wX) (c : Nat → Option am_C) (N D : Nat) (bb : Nat) (v1 : Int) (v2 : Int) (v3 : Int) (v4 : Int) (v5 : Int) (v6 : Int) (v7 : Int) (q1 : R32 v1) (q2 : R32 v2) (q3 : R32 v3) (q4 : R32 v4) (q5 : R32 v5) (q6 : R32 v6) (q7 : R32 v7) (m : mR) (hm : Cn m) (j : Nat → Int) (Q2 : Sum (Int × Int × mR) (Sum (mR) (Int × Int × mR)) → ag_Re af_T → Prop) (H1 : ∀ s j, cs_takeTable_101 s → PP bb w D pm_275 (hd_takeTable_101 c N v1 s j) (Q2 (.inl s))) (H2 : ∀ x j, cx_takeTable_101 x → PP bb w D pm_275 (ex_takeTable_101 c N v1 x j) (Q2 (.inr x))) : PP bb w D pm_275 (262, [(0, .ref 189), (1, .int (i32 v1)), (2, .int (i32 v2)), (3, .int (i32 v3)), (4, .int (i32 v4)), (5, .int (i32 v5)), (6, .int (i32 v6)), (7, .int (i32 v7))], [], (mhp m c, N), 0, 0) (QS Q2 (rfl_takeTable_262 v1 v2 v3 v4 v5 v6 v7 m)) := by
  unfold rfl_takeTable_262
  show PP bb w D pm_275 (262, [(0, .ref 189), (1, .int (i32 v1)), (2, .int (i32 v2)), (3, .int (i32 v3)), (4, .int (i32 v4)), (5, .int (i32 v5)), (6, .int (i32 v6)), (7, .int (i32 v7))], [], (mhp (mO m [] []) c, N), 0, 0) _
  refine P_ld 263 (.ref 189) rfl (fun _ => rfl) ?_
  refine P_ca0 266 212 [.ref 189] [] rfl (fun _ => rfl) rfl (D_next w m c N D hm) (fun y35 n37 => ?_)
  exact dg_takeTable_266 w c N D bb v1 v2 v3 v4 v5 v6 v7 q1 q2 q3 q4 q5 q6 q7 y35.2 n37 (jk []) Q2 H1 H2
def rfl_takeTable_215 (v1 : Int) (v2 : Int) (v3 : Int) (v4 : Int) (v5 : Int) (m : mR) : Option (Sum (Int × Int × mR) (Sum (mR) (Int × Int × mR))) :=
  if m.1 10 = 0 then
    if m.1 7 = 312 then
      rfl_takeTable_262 v1 v2 v3 v4 v5 (m.1 8) (m.1 7) m
    else
      if m.1 7 = 313 then
        rfl_takeTable_262 v1 v2 v3 v4 v5 (m.1 8) (m.1 7) m
      else
        if m.1 7 = 314 then
          rfl_takeTable_262 v1 v2 v3 v4 v5 (m.1 8) (m.1 7) m
        else
          bnd (rf_bad m) fun y42 =>
          rfl_takeTable_262 v1 v2 v3 v4 v5 (m.1 8) (m.1 7) y42.2
  else
    rfl_takeTable_262 v1 v2 v3 v4 v5 (m.1 8) (m.1 7) m
theorem dg_takeTable_215 (w : wX) (c : Nat → Option am_C) (N D : Nat) (bb : Nat) (v1 : Int) (v2 : Int) (v3 : Int) (v4 : Int) (v5 : Int) (q1 : R32 v1) (q2 : R32 v2) (q3 : R32 v3) (q4 : R32 v4) (q5 : R32 v5) (m : mR) (hm : Cn m) (j : Nat → Int) (Q2 : Sum (Int × Int × mR) (Sum (mR) (Int × Int × mR)) → ag_Re af_T → Prop) (H1 : ∀ s j, cs_takeTable_101 s → PP bb w D pm_275 (hd_takeTable_101 c N v1 s j) (Q2 (.inl s))) (H2 : ∀ x j, cx_takeTable_101 x → PP bb w D pm_275 (ex_takeTable_101 c N v1 x j) (Q2 (.inr x))) : PP bb w D pm_275 (215, [(0, .ref 189), (1, .int (i32 v1)), (2, .int (i32 v2)), (3, .int (i32 v3)), (4, .int (i32 v4)), (5, .int (i32 v5)), (6, .int (i32 (j 6))), (7, .int (i32 (j 7)))], [], (mhp m c, N), 0, 0) (QS Q2 (rfl_takeTable_215 v1 v2 v3 v4 v5 m)) := by
  unfold rfl_takeTable_215
  show PP bb w D pm_275 (215, [(0, .ref 189), (1, .int (i32 v1)), (2, .int (i32 v2)), (3, .int (i32 v3)), (4, .int (i32 v4)), (5, .int (i32 v5)), (6, .int (i32 (j 6))), (7, .int (i32 (j 7)))], [], (mhp (mO m [] []) c, N), 0, 0) _
  refine P_gf 219 (.int (i32 (m.1 8))) rfl rfl rfl rfl rfl rfl ?_
  refine P_sto 221 [(6, .int (i32 (m.1 8))), (0, .ref 189), (1, .int (i32 v1)), (2, .int (i32 v2)), (3, .int (i32 v3)), (4, .int (i32 v4)), (5, .int (i32 v5)), (7, .int (i32 (j 7)))] rfl (fun _ => rfl) ?_
  refine P_gf 225 (.int (i32 (m.1 7))) rfl rfl rfl rfl rfl rfl ?_
  refine P_sto 227 [(7, .int (i32 (m.1 7))), (6, .int (i32 (m.1 8))), (0, .ref 189), (1, .int (i32 v1)), (2, .int (i32 v2)), (3, .int (i32 v3)), (4, .int (i32 v4)), (5, .int (i32 v5))] rfl (fun _ => rfl) ?_
  refine P_gf 231 (.int (i32 (m.1 10))) rfl rfl rfl rfl rfl rfl ?_
  refine P_ifE 262 234 rfl rfl rfl (Cn_i hm 10 rfl) rfl (fun h38 => ?_) (fun h38 => ?_)
  · skip
    refine P_ld 236 (.int (i32 (m.1 7))) rfl (fun _ => rfl) ?_
    refine P_ld 239 (.int (i32 312)) rfl (fun _ => rfl) ?_
    refine P_icF 262 242 rfl rfl rfl (Cn_i hm 7 rfl) (l32 312 rfl) rfl (fun h39 => ?_) (fun h39 => ?_)
    · skip
      refine P_lv (b := [(0, .ref 189), (1, .int (i32 v1)), (2, .int (i32 v2)), (3, .int (i32 v3)), (4, .int (i32 v4)), (5, .int (i32 v5)), (6, .int (i32 (m.1 8))), (7, .int (i32 (m.1 7)))]) rfl rfl ⟨rfl, rfl, rfl, rfl, rfl, rfl, rfl, rfl, trivial⟩ ?_
      exact dg_takeTable_262 w c N D bb v1 v2 v3 v4 v5 (m.1 8) (m.1 7) q1 q2 q3 q4 q5 (Cn_i hm 8 rfl) (Cn_i hm 7 rfl) m hm (jk []) Q2 H1 H2
    · skip
      refine P_ld 244 (.int (i32 (m.1 7))) rfl (fun _ => rfl) ?_
      refine P_ld 247 (.int (i32 313)) rfl (fun _ => rfl) ?_
      refine P_icF 262 250 rfl rfl rfl (Cn_i hm 7 rfl) (l32 313 rfl) rfl (fun h40 => ?_) (fun h40 => ?_)
      · skip
        refine P_lv (b := [(0, .ref 189), (1, .int (i32 v1)), (2, .int (i32 v2)), (3, .int (i32 v3)), (4, .int (i32 v4)), (5, .int (i32 v5)), (6, .int (i32 (m.1 8))), (7, .int (i32 (m.1 7)))]) rfl rfl ⟨rfl, rfl, rfl, rfl, rfl, rfl, rfl, rfl, trivial⟩ ?_
        exact dg_takeTable_262 w c N D bb v1 v2 v3 v4 v5 (m.1 8) (m.1 7) q1 q2 q3 q4 q5 (Cn_i hm 8 rfl) (Cn_i hm 7 rfl) m hm (jk []) Q2 H1 H2
      · skip
        refine P_ld 252 (.int (i32 (m.1 7))) rfl (fun _ => rfl) ?_
        refine P_ld 255 (.int (i32 314)) rfl (fun _ => rfl) ?_
        refine P_icF 262 258 rfl rfl rfl (Cn_i hm 7 rfl) (l32 314 rfl) rfl (fun h41 => ?_) (fun h41 => ?_)
        · skip
          refine P_lv (b := [(0, .ref 189), (1, .int (i32 v1)), (2, .int (i32 v2)), (3, .int (i32 v3)), (4, .int (i32 v4)), (5, .int (i32 v5)), (6, .int (i32 (m.1 8))), (7, .int (i32 (m.1 7)))]) rfl rfl ⟨rfl, rfl, rfl, rfl, rfl, rfl, rfl, rfl, trivial⟩ ?_
          exact dg_takeTable_262 w c N D bb v1 v2 v3 v4 v5 (m.1 8) (m.1 7) q1 q2 q3 q4 q5 (Cn_i hm 8 rfl) (Cn_i hm 7 rfl) m hm (jk []) Q2 H1 H2
        · skip
          refine P_ld 259 (.ref 189) rfl (fun _ => rfl) ?_
          refine P_ca0 262 226 [.ref 189] [] rfl (fun _ => rfl) rfl (D_bad w m c N D hm) (fun y42 n44 => ?_)
          refine P_lv (b := [(0, .ref 189), (1, .int (i32 v1)), (2, .int (i32 v2)), (3, .int (i32 v3)), (4, .int (i32 v4)), (5, .int (i32 v5)), (6, .int (i32 (m.1 8))), (7, .int (i32 (m.1 7)))]) rfl rfl ⟨rfl, rfl, rfl, rfl, rfl, rfl, rfl, rfl, trivial⟩ ?_
          exact dg_takeTable_262 w c N D bb v1 v2 v3 v4 v5 (m.1 8) (m.1 7) q1 q2 q3 q4 q5 (Cn_i hm 8 rfl) (Cn_i hm 7 rfl) y42.2 n44 (jk []) Q2 H1 H2
  · skip
    refine P_lv (b := [(0, .ref 189), (1, .int (i32 v1)), (2, .int (i32 v2)), (3, .int (i32 v3)), (4, .int (i32 v4)), (5, .int (i32 v5)), (6, .int (i32 (m.1 8))), (7, .int (i32 (m.1 7)))]) rfl rfl ⟨rfl, rfl, rfl, rfl, rfl, rfl, rfl, rfl, trivial⟩ ?_
    exact dg_takeTable_262 w c N D bb v1 v2 v3 v4 v5 (m.1 8) (m.1 7) q1 q2 q3 q4 q5 (Cn_i hm 8 rfl) (Cn_i hm 7 rfl) m hm (jk []) Q2 H1 H2
def rfl_takeTable_183 (v1 : Int) (v2 : Int) (v3 : Int) (v4 : Int) (m : mR) : Option (Sum (Int × Int × mR) (Sum (mR) (Int × Int × mR))) :=
  bnd (rf_need 58 (mO m [] [(111, upI (m.2 111) v4 (m.1 28)), (112, upI (m.2 112) v4 (m.1 69))])) fun y45 =>
  rfl_takeTable_215 v1 v2 v3 v4 (m.1 69) y45.2
theorem dg_takeTable_183 (w : wX) (c : Nat → Option am_C) (N D : Nat) (bb : Nat) (v1 : Int) (v2 : Int) (v3 : Int) (v4 : Int) (q1 : R32 v1) (q2 : R32 v2) (q3 : R32 v3) (q4 : R32 v4) (m : mR) (hm : Cn m) (j : Nat → Int) (Q2 : Sum (Int × Int × mR) (Sum (mR) (Int × Int × mR)) → ag_Re af_T → Prop) (H1 : ∀ s j, cs_takeTable_101 s → PP bb w D pm_275 (hd_takeTable_101 c N v1 s j) (Q2 (.inl s))) (H2 : ∀ x j, cx_takeTable_101 x → PP bb w D pm_275 (ex_takeTable_101 c N v1 x j) (Q2 (.inr x))) : PP bb w D pm_275 (183, [(0, .ref 189), (1, .int (i32 v1)), (2, .int (i32 v2)), (3, .int (i32 v3)), (4, .int (i32 v4)), (5, .int (i32 (j 5))), (6, .int (i32 (j 6))), (7, .int (i32 (j 7)))], [], (mhp m c, N), 0, 0) (QS Q2 (rfl_takeTable_183 v1 v2 v3 v4 m)) := by
  unfold rfl_takeTable_183
  show PP bb w D pm_275 (183, [(0, .ref 189), (1, .int (i32 v1)), (2, .int (i32 v2)), (3, .int (i32 v3)), (4, .int (i32 v4)), (5, .int (i32 (j 5))), (6, .int (i32 (j 6))), (7, .int (i32 (j 7)))], [], (mhp (mO m [] []) c, N), 0, 0) _
  refine P_gf 187 (.ref 271) rfl rfl rfl rfl rfl rfl ?_
  refine P_ld 189 (.int (i32 v4)) rfl (fun _ => rfl) ?_
  refine P_gf 193 (.int (i32 (m.1 28))) rfl rfl rfl rfl rfl rfl ?_
  refine P_iast2 (a' := [(111, upI (m.2 111) v4 (m.1 28))]) 194 111 (m.2 111) rfl rfl rfl q4 rfl rfl ?_
  refine P_gf 198 (.int (i32 (m.1 69))) rfl rfl rfl rfl rfl rfl ?_
  refine P_sto 200 [(5, .int (i32 (m.1 69))), (0, .ref 189), (1, .int (i32 v1)), (2, .int (i32 v2)), (3, .int (i32 v3)), (4, .int (i32 v4)), (6, .int (i32 (j 6))), (7, .int (i32 (j 7)))] rfl (fun _ => rfl) ?_
  refine P_gf 204 (.ref 272) rfl rfl rfl rfl rfl rfl ?_
  refine P_ld 206 (.int (i32 v4)) rfl (fun _ => rfl) ?_
  refine P_ld 208 (.int (i32 (m.1 69))) rfl (fun _ => rfl) ?_
  refine P_iast2 (a' := [(111, upI (m.2 111) v4 (m.1 28)), (112, upI (m.2 112) v4 (m.1 69))]) 209 112 (m.2 112) rfl rfl rfl q4 rfl rfl ?_
  refine P_ld 210 (.ref 189) rfl (fun _ => rfl) ?_
  refine P_ld 212 (.int (i32 58)) rfl (fun _ => rfl) ?_
  refine P_ca0 215 232 [.ref 189, .int (i32 58)] [] rfl (fun _ => rfl) rfl (D_need w (mO m [] [(111, upI (m.2 111) v4 (m.1 28)), (112, upI (m.2 112) v4 (m.1 69))]) c N D (Cn_mO hm trivial ⟨(rE_ui (Cn_a hm 111) rfl (Cn_i hm 28 rfl)), (rE_ui (Cn_a hm 112) rfl (Cn_i hm 69 rfl)), trivial⟩) 58 (l32 58 rfl)) (fun y45 n47 => ?_)
  refine P_lv (b := [(0, .ref 189), (1, .int (i32 v1)), (2, .int (i32 v2)), (3, .int (i32 v3)), (4, .int (i32 v4)), (5, .int (i32 (m.1 69))), (6, .int (i32 (j 6))), (7, .int (i32 (j 7)))]) rfl rfl ⟨rfl, rfl, rfl, rfl, rfl, rfl, rfl, rfl, trivial⟩ ?_
  exact dg_takeTable_215 w c N D bb v1 v2 v3 v4 (m.1 69) q1 q2 q3 q4 (Cn_i hm 69 rfl) y45.2 n47 (jk [(6, j 6), (7, j 7)]) Q2 H1 H2
def rfl_takeTable_161 (v1 : Int) (v2 : Int) (v3 : Int) (v4 : Int) (m : mR) : Option (Sum (Int × Int × mR) (Sum (mR) (Int × Int × mR))) :=
  if m.1 10 = 0 then
    bnd (rf_readExpr (mO m [] [(110, upI (m.2 110) v4 (m.1 28))])) fun y49 =>
    rfl_takeTable_183 v1 v2 v3 v4 y49.2
  else
    rfl_takeTable_183 v1 v2 v3 v4 (mO m [] [(110, upI (m.2 110) v4 (m.1 28))])
theorem dg_takeTable_161 (w : wX) (c : Nat → Option am_C) (N D : Nat) (bb : Nat) (v1 : Int) (v2 : Int) (v3 : Int) (v4 : Int) (q1 : R32 v1) (q2 : R32 v2) (q3 : R32 v3) (q4 : R32 v4) (m : mR) (hm : Cn m) (j : Nat → Int) (Q2 : Sum (Int × Int × mR) (Sum (mR) (Int × Int × mR)) → ag_Re af_T → Prop) (H1 : ∀ s j, cs_takeTable_101 s → PP bb w D pm_275 (hd_takeTable_101 c N v1 s j) (Q2 (.inl s))) (H2 : ∀ x j, cx_takeTable_101 x → PP bb w D pm_275 (ex_takeTable_101 c N v1 x j) (Q2 (.inr x))) : PP bb w D pm_275 (161, [(0, .ref 189), (1, .int (i32 v1)), (2, .int (i32 v2)), (3, .int (i32 v3)), (4, .int (i32 v4)), (5, .int (i32 (j 5))), (6, .int (i32 (j 6))), (7, .int (i32 (j 7)))], [], (mhp m c, N), 0, 0) (QS Q2 (rfl_takeTable_161 v1 v2 v3 v4 m)) := by
  unfold rfl_takeTable_161
  show PP bb w D pm_275 (161, [(0, .ref 189), (1, .int (i32 v1)), (2, .int (i32 v2)), (3, .int (i32 v3)), (4, .int (i32 v4)), (5, .int (i32 (j 5))), (6, .int (i32 (j 6))), (7, .int (i32 (j 7)))], [], (mhp (mO m [] []) c, N), 0, 0) _
  refine P_gf 165 (.ref 270) rfl rfl rfl rfl rfl rfl ?_
  refine P_ld 167 (.int (i32 v4)) rfl (fun _ => rfl) ?_
  refine P_gf 171 (.int (i32 (m.1 28))) rfl rfl rfl rfl rfl rfl ?_
  refine P_iast2 (a' := [(110, upI (m.2 110) v4 (m.1 28))]) 172 110 (m.2 110) rfl rfl rfl q4 rfl rfl ?_
  refine P_gf 176 (.int (i32 (m.1 10))) rfl rfl rfl rfl rfl rfl ?_
  refine P_ifE 183 179 rfl rfl rfl (Cn_i hm 10 rfl) rfl (fun h48 => ?_) (fun h48 => ?_)
  · skip
    refine P_ld 180 (.ref 189) rfl (fun _ => rfl) ?_
    refine P_ca0 183 244 [.ref 189] [] rfl (fun _ => rfl) rfl (D_readExpr w (mO m [] [(110, upI (m.2 110) v4 (m.1 28))]) c N D (Cn_mO hm trivial ⟨(rE_ui (Cn_a hm 110) rfl (Cn_i hm 28 rfl)), trivial⟩)) (fun y49 n51 => ?_)
    exact dg_takeTable_183 w c N D bb v1 v2 v3 v4 q1 q2 q3 q4 y49.2 n51 (jk [(5, j 5), (6, j 6), (7, j 7)]) Q2 H1 H2
  · skip
    exact dg_takeTable_183 w c N D bb v1 v2 v3 v4 q1 q2 q3 q4 (mO m [] [(110, upI (m.2 110) v4 (m.1 28))]) (Cn_mO hm trivial ⟨(rE_ui (Cn_a hm 110) rfl (Cn_i hm 28 rfl)), trivial⟩) (jk [(5, j 5), (6, j 6), (7, j 7)]) Q2 H1 H2
def rfl_takeTable_137 (v1 : Int) (v2 : Int) (v3 : Int) (m : mR) : Option (Sum (Int × Int × mR) (Sum (mR) (Int × Int × mR))) :=
  if m.1 10 ≤ 0 then
    bnd (rf_next m) fun y53 =>
    rfl_takeTable_161 v1 v2 v3 (cut ((cut (4 * v1)) + ((m.2 51) v1))) y53.2
  else
    some (.inr (.inl m))
theorem dg_takeTable_137 (w : wX) (c : Nat → Option am_C) (N D : Nat) (bb : Nat) (v1 : Int) (v2 : Int) (v3 : Int) (q1 : R32 v1) (q2 : R32 v2) (q3 : R32 v3) (m : mR) (hm : Cn m) (j : Nat → Int) (Q2 : Sum (Int × Int × mR) (Sum (mR) (Int × Int × mR)) → ag_Re af_T → Prop) (H1 : ∀ s j, cs_takeTable_101 s → PP bb w D pm_275 (hd_takeTable_101 c N v1 s j) (Q2 (.inl s))) (H2 : ∀ x j, cx_takeTable_101 x → PP bb w D pm_275 (ex_takeTable_101 c N v1 x j) (Q2 (.inr x))) : PP bb w D pm_275 (137, [(0, .ref 189), (1, .int (i32 v1)), (2, .int (i32 v2)), (3, .int (i32 v3)), (4, .int (i32 (j 4))), (5, .int (i32 (j 5))), (6, .int (i32 (j 6))), (7, .int (i32 (j 7)))], [], (mhp m c, N), 0, 0) (QS Q2 (rfl_takeTable_137 v1 v2 v3 m)) := by
  unfold rfl_takeTable_137
  show PP bb w D pm_275 (137, [(0, .ref 189), (1, .int (i32 v1)), (2, .int (i32 v2)), (3, .int (i32 v3)), (4, .int (i32 (j 4))), (5, .int (i32 (j 5))), (6, .int (i32 (j 6))), (7, .int (i32 (j 7)))], [], (mhp (mO m [] []) c, N), 0, 0) _
  refine P_gf 141 (.int (i32 (m.1 10))) rfl rfl rfl rfl rfl rfl ?_
  refine P_ifF 145 144 rfl rfl rfl (Cn_i hm 10 rfl) rfl (fun h52 => ?_) (fun h52 => ?_)
  · skip
    refine P_ld 146 (.int (i32 4)) rfl (fun _ => rfl) ?_
    refine P_ld 147 (.int (i32 v1)) rfl (fun _ => rfl) ?_
    refine P_op 148 (cut (4 * v1)) _ rfl (fun _ => rfl) o_mul ?_
    refine P_gf 152 (.ref 221) rfl rfl rfl rfl rfl rfl ?_
    refine P_ld 153 (.int (i32 v1)) rfl (fun _ => rfl) ?_
    refine P_iald2 154 51 (m.2 51) rfl rfl rfl q1 rfl ?_
    refine P_op 155 (cut ((cut (4 * v1)) + ((m.2 51) v1))) _ rfl (fun _ => rfl) o_add ?_
    refine P_sto 157 [(4, .int (i32 (cut ((cut (4 * v1)) + ((m.2 51) v1))))), (0, .ref 189), (1, .int (i32 v1)), (2, .int (i32 v2)), (3, .int (i32 v3)), (5, .int (i32 (j 5))), (6, .int (i32 (j 6))), (7, .int (i32 (j 7)))] rfl (fun _ => rfl) ?_
    refine P_ld 158 (.ref 189) rfl (fun _ => rfl) ?_
    refine P_ca0 161 212 [.ref 189] [] rfl (fun _ => rfl) rfl (D_next w m c N D hm) (fun y53 n55 => ?_)
    refine P_lv (b := [(0, .ref 189), (1, .int (i32 v1)), (2, .int (i32 v2)), (3, .int (i32 v3)), (4, .int (i32 (cut ((cut (4 * v1)) + ((m.2 51) v1))))), (5, .int (i32 (j 5))), (6, .int (i32 (j 6))), (7, .int (i32 (j 7)))]) rfl rfl ⟨rfl, rfl, rfl, rfl, rfl, rfl, rfl, rfl, trivial⟩ ?_
    exact dg_takeTable_161 w c N D bb v1 v2 v3 (cut ((cut (4 * v1)) + ((m.2 51) v1))) q1 q2 q3 cut_r y53.2 n55 (jk [(5, j 5), (6, j 6), (7, j 7)]) Q2 H1 H2
  · skip
    refine P_some ?_
    exact H2 (.inl m) (jk [(1, v1), (2, v2), (3, v3), (4, j 4), (5, j 5), (6, j 6), (7, j 7)]) hm
def rfb_takeTable_101 (v1 : Int) (s : Int × Int × mR) : Option (Sum (Int × Int × mR) (Sum (mR) (Int × Int × mR))) :=
  if s.2.2.1 10 = 0 then
    if s.2.2.1 7 = 311 then
      if (s.2.2.2 51) v1 = 4 then
        bnd (rf_wrong 4 (s.2.2.1 8) s.2.2) fun y63 =>
        rfl_takeTable_137 v1 s.1 s.2.1 y63.2
      else
        rfl_takeTable_137 v1 s.1 s.2.1 s.2.2
    else
      some (.inr (.inr (s.1, s.2.1, s.2.2)))
  else
    some (.inr (.inr (s.1, s.2.1, s.2.2)))
theorem dh_takeTable_101 (w : wX) (c : Nat → Option am_C) (N D : Nat) (v1 : Int) (q1 : R32 v1) (bb : Nat) (Q2 : Sum (Int × Int × mR) (Sum (mR) (Int × Int × mR)) → ag_Re af_T → Prop) (H1 : ∀ s j, cs_takeTable_101 s → PP bb w D pm_275 (hd_takeTable_101 c N v1 s j) (Q2 (.inl s))) (H2 : ∀ x j, cx_takeTable_101 x → PP bb w D pm_275 (ex_takeTable_101 c N v1 x j) (Q2 (.inr x))) (s : Int × Int × mR) (j : Nat → Int) (hs : cs_takeTable_101 s) : PP (bb + 1) w D pm_275 (hd_takeTable_101 c N v1 s j) (QS Q2 (rfb_takeTable_101 v1 s)) := by
  obtain ⟨g2, g3, gm⟩ := hs
  unfold rfb_takeTable_101
  show PP (bb + 1) w D pm_275 (101, [(0, .ref 189), (1, .int (i32 v1)), (2, .int (i32 s.1)), (3, .int (i32 s.2.1)), (4, .int (i32 (j 4))), (5, .int (i32 (j 5))), (6, .int (i32 (j 6))), (7, .int (i32 (j 7)))], [], (mhp (mO s.2.2 [] []) c, N), 0, 0) _
  refine P1_ld 102 (.ref 189) rfl (fun _ => rfl) ?_
  refine P_gf1 105 (.int (i32 (s.2.2.1 10))) rfl rfl rfl rfl ?_
  refine P_ifE 384 108 rfl rfl rfl (Cn_i gm 10 rfl) rfl (fun h60 => ?_) (fun h60 => ?_)
  · skip
    refine P_gf 112 (.int (i32 (s.2.2.1 7))) rfl rfl rfl rfl rfl rfl ?_
    refine P_ld 115 (.int (i32 311)) rfl (fun _ => rfl) ?_
    refine P_icE 384 118 rfl rfl rfl (Cn_i gm 7 rfl) (l32 311 rfl) rfl (fun h61 => ?_) (fun h61 => ?_)
    · skip
      refine P_gf 122 (.ref 221) rfl rfl rfl rfl rfl rfl ?_
      refine P_ld 123 (.int (i32 v1)) rfl (fun _ => rfl) ?_
      refine P_iald2 124 51 (s.2.2.2 51) rfl rfl rfl q1 rfl ?_
      refine P_ld 125 (.int (i32 4)) rfl (fun _ => rfl) ?_
      refine P_icE 137 128 rfl rfl rfl (rE_i (Cn_a gm 51) rfl _) (l32 4 rfl) rfl (fun h62 => ?_) (fun h62 => ?_)
      · skip
        refine P_ld 129 (.ref 189) rfl (fun _ => rfl) ?_
        refine P_ld 130 (.int (i32 4)) rfl (fun _ => rfl) ?_
        refine P_gf 134 (.int (i32 (s.2.2.1 8))) rfl rfl rfl rfl rfl rfl ?_
        refine P_ca0 137 222 [.ref 189, .int (i32 4), .int (i32 (s.2.2.1 8))] [] rfl (fun _ => rfl) rfl (D_wrong w s.2.2 c N D gm 4 (s.2.2.1 8) (l32 4 rfl) (Cn_i gm 8 rfl)) (fun y63 n65 => ?_)
        exact dg_takeTable_137 w c N D bb v1 s.1 s.2.1 q1 g2 g3 y63.2 n65 (jk [(4, j 4), (5, j 5), (6, j 6), (7, j 7)]) Q2 H1 H2
      · skip
        exact dg_takeTable_137 w c N D bb v1 s.1 s.2.1 q1 g2 g3 s.2.2 gm (jk [(4, j 4), (5, j 5), (6, j 6), (7, j 7)]) Q2 H1 H2
    · skip
      refine P_some ?_
      exact H2 (.inr (s.1, s.2.1, s.2.2)) (jk [(4, j 4), (5, j 5), (6, j 6), (7, j 7)]) ⟨g2, g3, gm⟩
  · skip
    refine P_some ?_
    exact H2 (.inr (s.1, s.2.1, s.2.2)) (jk [(4, j 4), (5, j 5), (6, j 6), (7, j 7)]) ⟨g2, g3, gm⟩
def rfl_takeTable_76 (v1 : Int) (m : mR) : Option (Int × mR) :=
  if m.1 10 = 0 then
    if m.1 7 = 311 then
      bnd (whl (rfb_takeTable_101 v1) (0, 0, m)) (sel
        (fun e76 : mR =>
          some (0, e76))
        (fun e79 : Int × Int × mR =>
          rfl_takeTable_384 v1 e79.1 e79.2.1 e79.2.2))
    else
      bnd (rf_bad m) fun y84 =>
      bnd (whl (rfb_takeTable_101 v1) (0, 0, y84.2)) (sel
        (fun e87 : mR =>
          some (0, e87))
        (fun e90 : Int × Int × mR =>
          rfl_takeTable_384 v1 e90.1 e90.2.1 e90.2.2))
  else
    bnd (whl (rfb_takeTable_101 v1) (0, 0, m)) (sel
      (fun e67 : mR =>
        some (0, e67))
      (fun e70 : Int × Int × mR =>
        rfl_takeTable_384 v1 e70.1 e70.2.1 e70.2.2))
theorem dg_takeTable_76 (w : wX) (c : Nat → Option am_C) (N D : Nat) (bb : Nat) (v1 : Int) (q1 : R32 v1) (m : mR) (hm : Cn m) (j : Nat → Int) : PP bb w D pm_275 (76, [(0, .ref 189), (1, .int (i32 v1))], [], (mhp m c, N), 0, 0) (QS (FR0 c N) (rfl_takeTable_76 v1 m)) := by
  unfold rfl_takeTable_76
  show PP bb w D pm_275 (76, [(0, .ref 189), (1, .int (i32 v1))], [], (mhp (mO m [] []) c, N), 0, 0) _
  refine P_ld 77 (.int (i32 0)) rfl (fun _ => rfl) ?_
  refine P_sto 78 [(2, .int (i32 0)), (0, .ref 189), (1, .int (i32 v1))] rfl (fun _ => rfl) ?_
  refine P_ld 79 (.int (i32 0)) rfl (fun _ => rfl) ?_
  refine P_sto 80 [(3, .int (i32 0)), (2, .int (i32 0)), (0, .ref 189), (1, .int (i32 v1))] rfl (fun _ => rfl) ?_
  refine P_gf 84 (.int (i32 (m.1 10))) rfl rfl rfl rfl rfl rfl ?_
  refine P_ifE 101 87 rfl rfl rfl (Cn_i hm 10 rfl) rfl (fun h66 => ?_) (fun h66 => ?_)
  · skip
    refine P_gf 91 (.int (i32 (m.1 7))) rfl rfl rfl rfl rfl rfl ?_
    refine P_ld 94 (.int (i32 311)) rfl (fun _ => rfl) ?_
    refine P_icF 101 97 rfl rfl rfl (Cn_i hm 7 rfl) (l32 311 rfl) rfl (fun h75 => ?_) (fun h75 => ?_)
    · skip
      refine P_lv (b := [(0, .ref 189), (1, .int (i32 v1)), (2, .int (i32 0)), (3, .int (i32 0)), (4, .int (i32 0)), (5, .int (i32 0)), (6, .int (i32 0)), (7, .int (i32 0))]) rfl rfl ⟨rfl, rfl, rfl, rfl, trivial⟩ ?_
      refine P_bnd ?_
      refine P_whl (fun bb Q2 H1 H2 s9 j9 hs9 => dh_takeTable_101 w c N D v1 q1 bb Q2 H1 H2 s9 j9 hs9) bb (fun x0 j hx0 => ?_) (0, 0, m) (jk []) ⟨(l32 0 rfl), (l32 0 rfl), hm⟩
      cases x0 with
      | inl e76 =>
        have q77 := hx0
        have q78 := q77
        show PP bb w D pm_275 (144, [(0, .ref 189), (1, .int (i32 (j 1))), (2, .int (i32 (j 2))), (3, .int (i32 (j 3))), (4, .int (i32 (j 4))), (5, .int (i32 (j 5))), (6, .int (i32 (j 6))), (7, .int (i32 (j 7)))], [], (mhp (mO e76 [] []) c, N), 0, 0) (QS _ (some (0, e76)))
        exact P_re0 rfl rfl q78
      | inr e79 =>
        have q80 := hx0
        obtain ⟨q81, q82, q83⟩ := q80
        show PP bb w D pm_275 (384, [(0, .ref 189), (1, .int (i32 v1)), (2, .int (i32 e79.1)), (3, .int (i32 e79.2.1)), (4, .int (i32 (j 4))), (5, .int (i32 (j 5))), (6, .int (i32 (j 6))), (7, .int (i32 (j 7)))], [], (mhp (mO e79.2.2 [] []) c, N), 0, 0) (QS _ (rfl_takeTable_384 v1 e79.1 e79.2.1 e79.2.2))
        exact dg_takeTable_384 w c N D bb v1 e79.1 e79.2.1 q1 q81 q82 e79.2.2 q83 (jk [(4, j 4), (5, j 5), (6, j 6), (7, j 7)])
    · skip
      refine P_ld 98 (.ref 189) rfl (fun _ => rfl) ?_
      refine P_ca0 101 226 [.ref 189] [] rfl (fun _ => rfl) rfl (D_bad w m c N D hm) (fun y84 n86 => ?_)
      refine P_lv (b := [(0, .ref 189), (1, .int (i32 v1)), (2, .int (i32 0)), (3, .int (i32 0)), (4, .int (i32 0)), (5, .int (i32 0)), (6, .int (i32 0)), (7, .int (i32 0))]) rfl rfl ⟨rfl, rfl, rfl, rfl, trivial⟩ ?_
      refine P_bnd ?_
      refine P_whl (fun bb Q2 H1 H2 s9 j9 hs9 => dh_takeTable_101 w c N D v1 q1 bb Q2 H1 H2 s9 j9 hs9) bb (fun x0 j hx0 => ?_) (0, 0, y84.2) (jk []) ⟨(l32 0 rfl), (l32 0 rfl), n86⟩
      cases x0 with
      | inl e87 =>
        have q88 := hx0
        have q89 := q88
        show PP bb w D pm_275 (144, [(0, .ref 189), (1, .int (i32 (j 1))), (2, .int (i32 (j 2))), (3, .int (i32 (j 3))), (4, .int (i32 (j 4))), (5, .int (i32 (j 5))), (6, .int (i32 (j 6))), (7, .int (i32 (j 7)))], [], (mhp (mO e87 [] []) c, N), 0, 0) (QS _ (some (0, e87)))
        exact P_re0 rfl rfl q89
      | inr e90 =>
        have q91 := hx0
        obtain ⟨q92, q93, q94⟩ := q91
        show PP bb w D pm_275 (384, [(0, .ref 189), (1, .int (i32 v1)), (2, .int (i32 e90.1)), (3, .int (i32 e90.2.1)), (4, .int (i32 (j 4))), (5, .int (i32 (j 5))), (6, .int (i32 (j 6))), (7, .int (i32 (j 7)))], [], (mhp (mO e90.2.2 [] []) c, N), 0, 0) (QS _ (rfl_takeTable_384 v1 e90.1 e90.2.1 e90.2.2))
        exact dg_takeTable_384 w c N D bb v1 e90.1 e90.2.1 q1 q92 q93 e90.2.2 q94 (jk [(4, j 4), (5, j 5), (6, j 6), (7, j 7)])
  · skip
    refine P_lv (b := [(0, .ref 189), (1, .int (i32 v1)), (2, .int (i32 0)), (3, .int (i32 0)), (4, .int (i32 0)), (5, .int (i32 0)), (6, .int (i32 0)), (7, .int (i32 0))]) rfl rfl ⟨rfl, rfl, rfl, rfl, trivial⟩ ?_
    refine P_bnd ?_
    refine P_whl (fun bb Q2 H1 H2 s9 j9 hs9 => dh_takeTable_101 w c N D v1 q1 bb Q2 H1 H2 s9 j9 hs9) bb (fun x0 j hx0 => ?_) (0, 0, m) (jk []) ⟨(l32 0 rfl), (l32 0 rfl), hm⟩
    cases x0 with
    | inl e67 =>
      have q68 := hx0
      have q69 := q68
      show PP bb w D pm_275 (144, [(0, .ref 189), (1, .int (i32 (j 1))), (2, .int (i32 (j 2))), (3, .int (i32 (j 3))), (4, .int (i32 (j 4))), (5, .int (i32 (j 5))), (6, .int (i32 (j 6))), (7, .int (i32 (j 7)))], [], (mhp (mO e67 [] []) c, N), 0, 0) (QS _ (some (0, e67)))
      exact P_re0 rfl rfl q69
    | inr e70 =>
      have q71 := hx0
      obtain ⟨q72, q73, q74⟩ := q71
      show PP bb w D pm_275 (384, [(0, .ref 189), (1, .int (i32 v1)), (2, .int (i32 e70.1)), (3, .int (i32 e70.2.1)), (4, .int (i32 (j 4))), (5, .int (i32 (j 5))), (6, .int (i32 (j 6))), (7, .int (i32 (j 7)))], [], (mhp (mO e70.2.2 [] []) c, N), 0, 0) (QS _ (rfl_takeTable_384 v1 e70.1 e70.2.1 e70.2.2))
      exact dg_takeTable_384 w c N D bb v1 e70.1 e70.2.1 q1 q72 q73 e70.2.2 q74 (jk [(4, j 4), (5, j 5), (6, j 6), (7, j 7)])
def rfl_takeTable_16 (u0 : Int) (m : mR) : Option (Int × mR) :=
  if u0 = 0 then
    some (0, m)
  else
    bnd (rf_need 123 (mO m [(26, cut ((m.1 26) + 1))] [(51, upI (m.2 51) (m.1 26) 0), (52, upI (m.2 52) (m.1 26) 0), (53, upI (m.2 53) (m.1 26) 0), (58, upI (m.2 58) (m.1 26) (nar1 1)), (59, upI (m.2 59) (m.1 26) (nar1 0))])) fun y96 =>
    rfl_takeTable_76 (m.1 26) y96.2
theorem dg_takeTable_16 (w : wX) (c : Nat → Option am_C) (N D : Nat) (bb : Nat) (u0 : Int) (r0 : R32 u0) (m : mR) (hm : Cn m) (j : Nat → Int) : PP bb w D pm_275 (16, [(0, .ref 189)], [.int (i32 u0)], (mhp m c, N), 0, 0) (QS (FR0 c N) (rfl_takeTable_16 u0 m)) := by
  unfold rfl_takeTable_16
  show PP bb w D pm_275 (16, [(0, .ref 189)], [.int (i32 u0)], (mhp (mO m [] []) c, N), 0, 0) _
  refine P_ifE 20 19 rfl rfl rfl r0 rfl (fun h95 => ?_) (fun h95 => ?_)
  · skip
    exact P_re0 rfl rfl hm
  · skip
    refine P_gf 24 (.int (i32 (m.1 26))) rfl rfl rfl rfl rfl rfl ?_
    refine P_sto 25 [(1, .int (i32 (m.1 26))), (0, .ref 189)] rfl (fun _ => rfl) ?_
    refine P_ld 26 (.ref 189) rfl (fun _ => rfl) ?_
    refine P_ld 27 (.ref 189) rfl (fun _ => rfl) ?_
    refine P_gf1 30 (.int (i32 (m.1 26))) rfl rfl rfl rfl ?_
    refine P_ld 31 (.int (i32 1)) rfl (fun _ => rfl) ?_
    refine P_op 32 (cut ((m.1 26) + 1)) _ rfl (fun _ => rfl) o_add ?_
    refine P_pf (l' := [(26, cut ((m.1 26) + 1))]) 35 (cut ((m.1 26) + 1)) rfl rfl rfl rfl rfl rfl ?_
    refine P_gf 39 (.ref 221) rfl rfl rfl rfl rfl rfl ?_
    refine P_ld 40 (.int (i32 (m.1 26))) rfl (fun _ => rfl) ?_
    refine P_ld 41 (.int (i32 0)) rfl (fun _ => rfl) ?_
    refine P_iast2 (a' := [(51, upI (m.2 51) (m.1 26) 0)]) 42 51 (m.2 51) rfl rfl rfl (Cn_i hm 26 rfl) rfl rfl ?_
    refine P_gf 46 (.ref 222) rfl rfl rfl rfl rfl rfl ?_
    refine P_ld 47 (.int (i32 (m.1 26))) rfl (fun _ => rfl) ?_
    refine P_ld 48 (.int (i32 0)) rfl (fun _ => rfl) ?_
    refine P_iast2 (a' := [(51, upI (m.2 51) (m.1 26) 0), (52, upI (m.2 52) (m.1 26) 0)]) 49 52 (m.2 52) rfl rfl rfl (Cn_i hm 26 rfl) rfl rfl ?_
    refine P_gf 53 (.ref 223) rfl rfl rfl rfl rfl rfl ?_
    refine P_ld 54 (.int (i32 (m.1 26))) rfl (fun _ => rfl) ?_
    refine P_ld 55 (.int (i32 0)) rfl (fun _ => rfl) ?_
    refine P_iast2 (a' := [(51, upI (m.2 51) (m.1 26) 0), (52, upI (m.2 52) (m.1 26) 0), (53, upI (m.2 53) (m.1 26) 0)]) 56 53 (m.2 53) rfl rfl rfl (Cn_i hm 26 rfl) rfl rfl ?_
    refine P_gf 60 (.ref 228) rfl rfl rfl rfl rfl rfl ?_
    refine P_ld 61 (.int (i32 (m.1 26))) rfl (fun _ => rfl) ?_
    refine P_ld 62 (.int (i32 1)) rfl (fun _ => rfl) ?_
    refine P_bast2 (a' := [(51, upI (m.2 51) (m.1 26) 0), (52, upI (m.2 52) (m.1 26) 0), (53, upI (m.2 53) (m.1 26) 0), (58, upI (m.2 58) (m.1 26) (nar1 1))]) 63 58 (m.2 58) rfl rfl rfl (Cn_i hm 26 rfl) rfl rfl ?_
    refine P_gf 67 (.ref 229) rfl rfl rfl rfl rfl rfl ?_
    refine P_ld 68 (.int (i32 (m.1 26))) rfl (fun _ => rfl) ?_
    refine P_ld 69 (.int (i32 0)) rfl (fun _ => rfl) ?_
    refine P_bast2 (a' := [(51, upI (m.2 51) (m.1 26) 0), (52, upI (m.2 52) (m.1 26) 0), (53, upI (m.2 53) (m.1 26) 0), (58, upI (m.2 58) (m.1 26) (nar1 1)), (59, upI (m.2 59) (m.1 26) (nar1 0))]) 70 59 (m.2 59) rfl rfl rfl (Cn_i hm 26 rfl) rfl rfl ?_
    refine P_ld 71 (.ref 189) rfl (fun _ => rfl) ?_
    refine P_ld 73 (.int (i32 123)) rfl (fun _ => rfl) ?_
    refine P_ca0 76 232 [.ref 189, .int (i32 123)] [] rfl (fun _ => rfl) rfl (D_need w (mO m [(26, cut ((m.1 26) + 1))] [(51, upI (m.2 51) (m.1 26) 0), (52, upI (m.2 52) (m.1 26) 0), (53, upI (m.2 53) (m.1 26) 0), (58, upI (m.2 58) (m.1 26) (nar1 1)), (59, upI (m.2 59) (m.1 26) (nar1 0))]) c N D (Cn_mO hm ⟨(rV_i rfl cut_r), trivial⟩ ⟨(rE_ui (Cn_a hm 51) rfl (l32 0 rfl)), (rE_ui (Cn_a hm 52) rfl (l32 0 rfl)), (rE_ui (Cn_a hm 53) rfl (l32 0 rfl)), (rE_ui (Cn_a hm 58) rfl t32_r), (rE_ui (Cn_a hm 59) rfl t32_r), trivial⟩) 123 (l32 123 rfl)) (fun y96 n98 => ?_)
    refine P_lv (b := [(0, .ref 189), (1, .int (i32 (m.1 26)))]) rfl rfl ⟨rfl, rfl, trivial⟩ ?_
    exact dg_takeTable_76 w c N D bb (m.1 26) (Cn_i hm 26 rfl) y96.2 n98 (jk [])
def rfl_takeTable_4 (m : mR) : Option (Int × mR) :=
  bnd (rf_newName 7 (m.1 26) 8 m) fun y99 =>
  rfl_takeTable_16 y99.1 y99.2
theorem dg_takeTable_4 (w : wX) (c : Nat → Option am_C) (N D : Nat) (bb : Nat) (m : mR) (hm : Cn m) (j : Nat → Int) : PP bb w D pm_275 (4, [(0, .ref 189)], [], (mhp m c, N), 0, 0) (QS (FR0 c N) (rfl_takeTable_4 m)) := by
  unfold rfl_takeTable_4
  show PP bb w D pm_275 (4, [(0, .ref 189)], [], (mhp (mO m [] []) c, N), 0, 0) _
  refine P_ld 5 (.ref 189) rfl (fun _ => rfl) ?_
  refine P_ld 7 (.int (i32 7)) rfl (fun _ => rfl) ?_
  refine P_gf 11 (.int (i32 (m.1 26))) rfl rfl rfl rfl rfl rfl ?_
  refine P_ld 13 (.int (i32 8)) rfl (fun _ => rfl) ?_
  refine P_ca1 16 225 [.ref 189, .int (i32 7), .int (i32 (m.1 26)), .int (i32 8)] [] rfl (fun _ => rfl) rfl (D_newName w m c N D hm 7 (m.1 26) 8 (l32 7 rfl) (Cn_i hm 26 rfl) (l32 8 rfl)) (fun y99 h100 n101 => ?_)
  exact dg_takeTable_16 w c N D bb y99.1 h100 y99.2 n101 (jk [])
def rf_takeTable (m : mR) : Option (Int × mR) :=
  bnd (rf_next m) fun y102 =>
  rfl_takeTable_4 y102.2
theorem D_takeTable (w : wX) (m : mR) (c : Nat → Option am_C) (N D : Nat) (hm : Cn m) : PC w D 275 [.ref 189] (mhp m c, N) (QS (FR0 c N) (rf_takeTable m)) := by
  refine Pc_of (fun D bb => ?_) D
  unfold rf_takeTable
  show PP bb w D pm_275 (0, [(0, .ref 189)], [], (mhp (mO m [] []) c, N), 0, 0) _
  refine P_ld 1 (.ref 189) rfl (fun _ => rfl) ?_
  refine P_ca0 4 212 [.ref 189] [] rfl (fun _ => rfl) rfl (D_next w m c N D hm) (fun y102 n104 => ?_)
  exact dg_takeTable_4 w c N D bb y102.2 n104 (jk [])
def rf_takeOne (m : mR) : Option (Int × mR) :=
  if m.1 7 = 300 then
    bnd (rf_takeHeader m) fun y2 =>
    some (1, y2.2)
  else
    if m.1 7 = 301 then
      bnd (rf_takeUse m) fun y6 =>
      some (1, y6.2)
    else
      if m.1 7 = 302 then
        bnd (rf_takeMeta m) fun y10 =>
        some (1, y10.2)
      else
        if m.1 7 = 303 then
          bnd (rf_takeArray m) fun y14 =>
          some (1, y14.2)
        else
          if m.1 7 = 304 then
            bnd (rf_takeState m) fun y18 =>
            some (1, y18.2)
          else
            if m.1 7 = 309 then
              bnd (rf_takeAction m) fun y22 =>
              some (1, y22.2)
            else
              if m.1 7 = 310 then
                bnd (rf_takeTable m) fun y26 =>
                some (1, y26.2)
              else
                if m.1 7 = 305 then
                  some (0, m)
                else
                  if m.1 7 = 306 then
                    some (0, m)
                  else
                    if m.1 7 = 307 then
                      some (0, m)
                    else
                      if m.1 7 = 308 then
                        some (0, m)
                      else
                        some (0, m)
theorem D_takeOne (w : wX) (m : mR) (c : Nat → Option am_C) (N D : Nat) (hm : Cn m) : PC w D 223 [.ref 189] (mhp m c, N) (QS (FR1 c N) (rf_takeOne m)) := by
  refine Pc_of (fun D bb => ?_) D
  unfold rf_takeOne
  show PP bb w D pm_223 (0, [(0, .ref 189)], [], (mhp (mO m [] []) c, N), 0, 0) _
  refine P_gf 4 (.int (i32 (m.1 7))) rfl rfl rfl rfl rfl rfl ?_
  refine P_cs (fun h1 => ?_) (fun h1 => ?_)
  · skip
    refine P_cast 300 h1 ?_
    refine P_pop 64 rfl (fun _ => rfl) ?_
    refine P_ld 65 (.ref 189) rfl (fun _ => rfl) ?_
    refine P_ca0 68 224 [.ref 189] [] rfl (fun _ => rfl) rfl (D_takeHeader w m c N D hm) (fun y2 n4 => ?_)
    refine P_ld 69 (.int (i32 1)) rfl (fun _ => rfl) ?_
    exact P_re1 rfl (l32 1 rfl) n4
  · skip
    refine P_cs (fun h5 => ?_) (fun h5 => ?_)
    · skip
      refine P_cast 301 h5 ?_
      refine P_pop 70 rfl (fun _ => rfl) ?_
      refine P_ld 71 (.ref 189) rfl (fun _ => rfl) ?_
      refine P_ca0 74 235 [.ref 189] [] rfl (fun _ => rfl) rfl (D_takeUse w m c N D hm) (fun y6 n8 => ?_)
      refine P_ld 75 (.int (i32 1)) rfl (fun _ => rfl) ?_
      exact P_re1 rfl (l32 1 rfl) n8
    · skip
      refine P_cs (fun h9 => ?_) (fun h9 => ?_)
      · skip
        refine P_cast 302 h9 ?_
        refine P_pop 76 rfl (fun _ => rfl) ?_
        refine P_ld 77 (.ref 189) rfl (fun _ => rfl) ?_
        refine P_ca0 80 238 [.ref 189] [] rfl (fun _ => rfl) rfl (D_takeMeta w m c N D hm) (fun y10 n12 => ?_)
        refine P_ld 81 (.int (i32 1)) rfl (fun _ => rfl) ?_
        exact P_re1 rfl (l32 1 rfl) n12
      · skip
        refine P_cs (fun h13 => ?_) (fun h13 => ?_)
        · skip
          refine P_cast 303 h13 ?_
          refine P_pop 82 rfl (fun _ => rfl) ?_
          refine P_ld 83 (.ref 189) rfl (fun _ => rfl) ?_
          refine P_ca0 86 239 [.ref 189] [] rfl (fun _ => rfl) rfl (D_takeArray w m c N D hm) (fun y14 n16 => ?_)
          refine P_ld 87 (.int (i32 1)) rfl (fun _ => rfl) ?_
          exact P_re1 rfl (l32 1 rfl) n16
        · skip
          refine P_cs (fun h17 => ?_) (fun h17 => ?_)
          · skip
            refine P_cast 304 h17 ?_
            refine P_pop 88 rfl (fun _ => rfl) ?_
            refine P_ld 89 (.ref 189) rfl (fun _ => rfl) ?_
            refine P_ca0 92 240 [.ref 189] [] rfl (fun _ => rfl) rfl (D_takeState w m c N D hm) (fun y18 n20 => ?_)
            refine P_ld 93 (.int (i32 1)) rfl (fun _ => rfl) ?_
            exact P_re1 rfl (l32 1 rfl) n20
          · skip
            refine P_cs (fun h21 => ?_) (fun h21 => ?_)
            · skip
              refine P_cast 309 h21 ?_
              refine P_pop 94 rfl (fun _ => rfl) ?_
              refine P_ld 95 (.ref 189) rfl (fun _ => rfl) ?_
              refine P_ca0 98 267 [.ref 189] [] rfl (fun _ => rfl) rfl (D_takeAction w m c N D hm) (fun y22 n24 => ?_)
              refine P_ld 99 (.int (i32 1)) rfl (fun _ => rfl) ?_
              exact P_re1 rfl (l32 1 rfl) n24
            · skip
              refine P_cs (fun h25 => ?_) (fun h25 => ?_)
              · skip
                refine P_cast 310 h25 ?_
                refine P_pop 100 rfl (fun _ => rfl) ?_
                refine P_ld 101 (.ref 189) rfl (fun _ => rfl) ?_
                refine P_ca0 104 275 [.ref 189] [] rfl (fun _ => rfl) rfl (D_takeTable w m c N D hm) (fun y26 n28 => ?_)
                refine P_ld 105 (.int (i32 1)) rfl (fun _ => rfl) ?_
                exact P_re1 rfl (l32 1 rfl) n28
              · skip
                refine P_cs (fun h29 => ?_) (fun h29 => ?_)
                · skip
                  refine P_cast 305 h29 ?_
                  refine P_pop 106 rfl (fun _ => rfl) ?_
                  refine P_ld 107 (.int (i32 0)) rfl (fun _ => rfl) ?_
                  exact P_re1 rfl (l32 0 rfl) hm
                · skip
                  refine P_cs (fun h30 => ?_) (fun h30 => ?_)
                  · skip
                    refine P_cast 306 h30 ?_
                    refine P_pop 106 rfl (fun _ => rfl) ?_
                    refine P_ld 107 (.int (i32 0)) rfl (fun _ => rfl) ?_
                    exact P_re1 rfl (l32 0 rfl) hm
                  · skip
                    refine P_cs (fun h31 => ?_) (fun h31 => ?_)
                    · skip
                      refine P_cast 307 h31 ?_
                      refine P_pop 106 rfl (fun _ => rfl) ?_
                      refine P_ld 107 (.int (i32 0)) rfl (fun _ => rfl) ?_
                      exact P_re1 rfl (l32 0 rfl) hm
                    · skip
                      refine P_cs (fun h32 => ?_) (fun h32 => ?_)
                      · skip
                        refine P_cast 308 h32 ?_
                        refine P_pop 106 rfl (fun _ => rfl) ?_
                        refine P_ld 107 (.int (i32 0)) rfl (fun _ => rfl) ?_
                        exact P_re1 rfl (l32 0 rfl) hm
                      · skip
                        refine P_tsd 106 rfl rfl (Cn_i hm 7 rfl) (by omega) ?_
                        refine P_ld 107 (.int (i32 0)) rfl (fun _ => rfl) ?_
                        exact P_re1 rfl (l32 0 rfl) hm
end X26K
