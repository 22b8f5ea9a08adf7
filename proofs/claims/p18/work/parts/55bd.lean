noncomputable section X55BD
def cs_worth_5 (s : Int × Int × mR) : Prop := R32 s.1 ∧ R32 s.2.1 ∧ Cn s.2.2
def cx_worth_5 : (mR) → Prop := (fun (e : mR) => Cn e)
def hd_worth_5 (c : Nat → Option am_C) (N : Nat) (v2 : Int) (s : Int × Int × mR) (j : Nat → Int) : ag_St af_T := (5, [(0, .ref 189), (1, .int (i32 (j 1))), (2, .int (i32 v2)), (3, .int (i32 s.1)), (4, .int (i32 s.2.1)), (5, .int (i32 (j 5))), (6, .int (i32 (j 6)))], [], (mhp s.2.2 c, N), 0, 0)
def ex_worth_5 (c : Nat → Option am_C) (N : Nat) (v2 : Int) : (mR) → (Nat → Int) → ag_St af_T := (fun (e : mR) (j : Nat → Int) => ((448, [(0, .ref 189), (1, .int (i32 (j 1))), (2, .int (i32 (j 2))), (3, .int (i32 (j 3))), (4, .int (i32 (j 4))), (5, .int (i32 (j 5))), (6, .int (i32 (j 6)))], [], (mhp e c, N), 0, 0) : ag_St af_T))
def rfl_worth_448 (m : mR) : Option (Int × mR) :=
  some ((m.2 173) 0, m)
theorem dg_worth_448 (w : wX) (c : Nat → Option am_C) (N D : Nat) (bb : Nat) (m : mR) (hm : Cn m) (j : Nat → Int) : PP bb w D pm_327 (448, [(0, .ref 189), (1, .int (i32 (j 1))), (2, .int (i32 (j 2))), (3, .int (i32 (j 3))), (4, .int (i32 (j 4))), (5, .int (i32 (j 5))), (6, .int (i32 (j 6)))], [], (mhp m c, N), 0, 0) (QS (FR2 c N) (rfl_worth_448 m)) := by
  unfold rfl_worth_448
  show PP bb w D pm_327 (448, [(0, .ref 189), (1, .int (i32 (j 1))), (2, .int (i32 (j 2))), (3, .int (i32 (j 3))), (4, .int (i32 (j 4))), (5, .int (i32 (j 5))), (6, .int (i32 (j 6)))], [], (mhp (mO m [] []) c, N), 0, 0) _
  refine P_gf 452 (.ref 322) rfl rfl rfl rfl rfl rfl ?_
  refine P_ld 453 (.int (i32 0)) rfl (fun _ => rfl) ?_
  refine P_lald2 454 173 (m.2 173) rfl rfl rfl (l32 0 rfl) rfl ?_
  exact P_re2 rfl rfl (rE_l (Cn_a hm 173) rfl _) hm
def rfl_worth_442 (v2 : Int) (v3 : Int) (v4 : Int) (m : mR) : Option (Sum (Int × Int × mR) (mR)) :=
  some (.inl (v3, cut (v4 + 1), m))
theorem dg_worth_442 (w : wX) (c : Nat → Option am_C) (N D : Nat) (bb : Nat) (v2 : Int) (v3 : Int) (v4 : Int) (q2 : R32 v2) (q3 : R32 v3) (q4 : R32 v4) (m : mR) (hm : Cn m) (j : Nat → Int) (Q2 : Sum (Int × Int × mR) (mR) → ag_Re af_T → Prop) (H1 : ∀ s j, cs_worth_5 s → PP bb w D pm_327 (hd_worth_5 c N v2 s j) (Q2 (.inl s))) (H2 : ∀ x j, cx_worth_5 x → PP bb w D pm_327 (ex_worth_5 c N v2 x j) (Q2 (.inr x))) : PP bb w D pm_327 (442, [(0, .ref 189), (1, .int (i32 (j 1))), (2, .int (i32 v2)), (3, .int (i32 v3)), (4, .int (i32 v4)), (5, .int (i32 (j 5))), (6, .int (i32 (j 6)))], [], (mhp m c, N), 0, 0) (QS Q2 (rfl_worth_442 v2 v3 v4 m)) := by
  unfold rfl_worth_442
  show PP bb w D pm_327 (442, [(0, .ref 189), (1, .int (i32 (j 1))), (2, .int (i32 v2)), (3, .int (i32 v3)), (4, .int (i32 v4)), (5, .int (i32 (j 5))), (6, .int (i32 (j 6)))], [], (mhp (mO m [] []) c, N), 0, 0) _
  refine P_inc 445 [(4, .int (i32 (cut (v4 + 1)))), (0, .ref 189), (1, .int (i32 (j 1))), (2, .int (i32 v2)), (3, .int (i32 v3)), (5, .int (i32 (j 5))), (6, .int (i32 (j 6)))] rfl rfl (by decide) rfl rfl ?_
  refine P_goto 5 rfl (fun _ => rfl) ?_
  refine P_some ?_
  refine P_lv (b := [(0, .ref 189), (1, .int (i32 (j 1))), (2, .int (i32 v2)), (3, .int (i32 v3)), (4, .int (i32 (cut (v4 + 1)))), (5, .int (i32 (j 5))), (6, .int (i32 (j 6)))]) rfl rfl ⟨rfl, rfl, rfl, rfl, rfl, rfl, rfl, trivial⟩ ?_
  exact H1 (v3, cut (v4 + 1), m) (jk [(1, j 1), (5, j 5), (6, j 6)]) ⟨q3, cut_r, hm⟩
def rfl_worth_399 (v2 : Int) (v3 : Int) (v4 : Int) (u1 : Int) (u2 : Int) (m : mR) : Option (Sum (Int × Int × mR) (mR)) :=
  rfl_worth_442 v2 v3 v4 (mO m [] [(173, upI (m.2 173) u1 u2)])
theorem dg_worth_399 (w : wX) (c : Nat → Option am_C) (N D : Nat) (bb : Nat) (v2 : Int) (v3 : Int) (v4 : Int) (u1 : Int) (u2 : Int) (q2 : R32 v2) (q3 : R32 v3) (q4 : R32 v4) (r1 : R32 u1) (r2 : R64 u2) (m : mR) (hm : Cn m) (j : Nat → Int) (Q2 : Sum (Int × Int × mR) (mR) → ag_Re af_T → Prop) (H1 : ∀ s j, cs_worth_5 s → PP bb w D pm_327 (hd_worth_5 c N v2 s j) (Q2 (.inl s))) (H2 : ∀ x j, cx_worth_5 x → PP bb w D pm_327 (ex_worth_5 c N v2 x j) (Q2 (.inr x))) : PP bb w D pm_327 (399, [(0, .ref 189), (1, .int (i32 (j 1))), (2, .int (i32 v2)), (3, .int (i32 v3)), (4, .int (i32 v4)), (5, .int (i32 (j 5))), (6, .int (i32 (j 6)))], [.long (i64 u2), .int (i32 u1), .ref 322], (mhp m c, N), 0, 0) (QS Q2 (rfl_worth_399 v2 v3 v4 u1 u2 m)) := by
  unfold rfl_worth_399
  show PP bb w D pm_327 (399, [(0, .ref 189), (1, .int (i32 (j 1))), (2, .int (i32 v2)), (3, .int (i32 v3)), (4, .int (i32 v4)), (5, .int (i32 (j 5))), (6, .int (i32 (j 6)))], [.long (i64 u2), .int (i32 u1), .ref 322], (mhp (mO m [] []) c, N), 0, 0) _
  refine P_last2 (a' := [(173, upI (m.2 173) u1 u2)]) 400 173 (m.2 173) rfl rfl rfl r1 rfl rfl ?_
  refine P_goto 442 rfl (fun _ => rfl) ?_
  exact dg_worth_442 w c N D bb v2 v3 v4 q2 q3 q4 (mO m [] [(173, upI (m.2 173) u1 u2)]) (Cn_mO hm trivial ⟨(rE_ul (Cn_a hm 173) rfl r2), trivial⟩) (jk [(1, j 1), (5, j 5), (6, j 6)]) Q2 H1 H2
def rfb_worth_5 (v2 : Int) (s : Int × Int × mR) : Option (Sum (Int × Int × mR) (mR)) :=
  if v2 ≤ s.2.1 then
    some (.inr s.2.2)
  else
    if (s.2.2.2 65) s.2.1 = 33 then
      rfl_worth_442 v2 s.1 s.2.1 (mO s.2.2 [] [(173, upI (s.2.2.2 173) (cut (s.1 - 1)) (cutl (1 - ((s.2.2.2 173) (cut (s.1 - 1))))))])
    else
      if (s.2.2.2 65) s.2.1 = 126 then
        bnd (rf_cut (xor64 ((s.2.2.2 173) (cut (s.1 - 1))) (-1)) ((s.2.2.2 66) s.2.1)) fun y6 =>
        rfl_worth_442 v2 s.1 s.2.1 (mO s.2.2 [] [(173, upI (s.2.2.2 173) (cut (s.1 - 1)) y6)])
      else
        if (s.2.2.2 65) s.2.1 = 400 then
          rfl_worth_442 v2 (cut (s.1 + 1)) s.2.1 (mO s.2.2 [] [(173, upI (s.2.2.2 173) s.1 ((s.2.2.2 68) s.2.1))])
        else
          if (s.2.2.2 65) s.2.1 = 401 then
            rfl_worth_442 v2 (cut (s.1 + 1)) s.2.1 (mO s.2.2 [] [(173, upI (s.2.2.2 173) s.1 ((s.2.2.2 171) ((s.2.2.2 67) s.2.1)))])
          else
            if (s.2.2.2 65) s.2.1 = 402 then
              rfl_worth_442 v2 (cut (s.1 + 1)) s.2.1 (mO s.2.2 [] [(173, upI (s.2.2.2 173) s.1 ((s.2.2.2 172) ((s.2.2.2 67) s.2.1)))])
            else
              if (s.2.2.2 65) s.2.1 = 403 then
                rfl_worth_442 v2 (cut (s.1 + 1)) s.2.1 (mO s.2.2 [] [(173, upI (s.2.2.2 173) s.1 ((s.2.2.2 174) ((s.2.2.2 67) s.2.1)))])
              else
                if (s.2.2.2 65) s.2.1 = 404 then
                  bnd (rf_one ((s.2.2.2 175) ((s.2.2.2 67) s.2.1))) fun y13 =>
                  rfl_worth_442 v2 (cut (s.1 + 1)) s.2.1 (mO s.2.2 [] [(173, upI (s.2.2.2 173) s.1 y13)])
                else
                  if (s.2.2.2 65) s.2.1 = 405 then
                    bnd (rf_cut (ushr64 ((s.2.2.2 173) (cut (s.1 - 1))) ((s.2.2.2 67) s.2.1)) ((s.2.2.2 66) s.2.1)) fun y16 =>
                    rfl_worth_442 v2 s.1 s.2.1 (mO s.2.2 [] [(173, upI (s.2.2.2 173) (cut (s.1 - 1)) y16)])
                  else
                    if (s.2.2.2 65) s.2.1 = 406 then
                      bnd (rf_cut ((s.2.2.2 173) (cut (s.1 - 1))) ((s.2.2.2 66) s.2.1)) fun y19 =>
                      rfl_worth_442 v2 s.1 s.2.1 (mO s.2.2 [] [(173, upI (s.2.2.2 173) (cut (s.1 - 1)) y19)])
                    else
                      if (s.2.2.2 65) s.2.1 = 407 then
                        if cmp64 ((s.2.2.2 173) (cut ((cut (s.1 + (-2))) - 1))) 1 = 0 then
                          rfl_worth_399 v2 (cut (s.1 + (-2))) s.2.1 (cut ((cut (s.1 + (-2))) - 1)) ((s.2.2.2 173) (cut (s.1 + (-2)))) s.2.2
                        else
                          rfl_worth_399 v2 (cut (s.1 + (-2))) s.2.1 (cut ((cut (s.1 + (-2))) - 1)) ((s.2.2.2 173) (cut ((cut (s.1 + (-2))) + 1))) s.2.2
                      else
                        if (s.2.2.2 65) s.2.1 = 408 then
                          bnd (rf_cut (neg64 ((s.2.2.2 173) (cut (s.1 - 1)))) ((s.2.2.2 66) s.2.1)) fun y24 =>
                          rfl_worth_442 v2 s.1 s.2.1 (mO s.2.2 [] [(173, upI (s.2.2.2 173) (cut (s.1 - 1)) y24)])
                        else
                          bnd (rf_twoOf ((s.2.2.2 65) s.2.1) ((s.2.2.2 66) s.2.1) ((s.2.2.2 67) s.2.1) ((s.2.2.2 173) (cut ((cut (s.1 + (-1))) - 1))) ((s.2.2.2 173) (cut (s.1 + (-1))))) fun y26 =>
                          rfl_worth_442 v2 (cut (s.1 + (-1))) s.2.1 (mO s.2.2 [] [(173, upI (s.2.2.2 173) (cut ((cut (s.1 + (-1))) - 1)) y26)])
theorem dh_worth_5 (w : wX) (c : Nat → Option am_C) (N D : Nat) (v2 : Int) (q2 : R32 v2) (bb : Nat) (Q2 : Sum (Int × Int × mR) (mR) → ag_Re af_T → Prop) (H1 : ∀ s j, cs_worth_5 s → PP bb w D pm_327 (hd_worth_5 c N v2 s j) (Q2 (.inl s))) (H2 : ∀ x j, cx_worth_5 x → PP bb w D pm_327 (ex_worth_5 c N v2 x j) (Q2 (.inr x))) (s : Int × Int × mR) (j : Nat → Int) (hs : cs_worth_5 s) : PP (bb + 1) w D pm_327 (hd_worth_5 c N v2 s j) (QS Q2 (rfb_worth_5 v2 s)) := by
  obtain ⟨g3, g4, gm⟩ := hs
  unfold rfb_worth_5
  show PP (bb + 1) w D pm_327 (5, [(0, .ref 189), (1, .int (i32 (j 1))), (2, .int (i32 v2)), (3, .int (i32 s.1)), (4, .int (i32 s.2.1)), (5, .int (i32 (j 5))), (6, .int (i32 (j 6)))], [], (mhp (mO s.2.2 [] []) c, N), 0, 0) _
  refine P1_ld 7 (.int (i32 s.2.1)) rfl (fun _ => rfl) ?_
  refine P_ld 8 (.int (i32 v2)) rfl (fun _ => rfl) ?_
  refine P_icF 448 11 rfl rfl rfl g4 q2 rfl (fun h3 => ?_) (fun h3 => ?_)
  · skip
    refine P_some ?_
    exact H2 s.2.2 (jk [(1, j 1), (2, v2), (3, s.1), (4, s.2.1), (5, j 5), (6, j 6)]) gm
  · skip
    refine P_gf 15 (.ref 236) rfl rfl rfl rfl rfl rfl ?_
    refine P_ld 17 (.int (i32 s.2.1)) rfl (fun _ => rfl) ?_
    refine P_iald2 18 67 (s.2.2.2 67) rfl rfl rfl g4 rfl ?_
    refine P_sto 20 [(5, .int (i32 ((s.2.2.2 67) s.2.1))), (0, .ref 189), (1, .int (i32 (j 1))), (2, .int (i32 v2)), (3, .int (i32 s.1)), (4, .int (i32 s.2.1)), (6, .int (i32 (j 6)))] rfl (fun _ => rfl) ?_
    refine P_gf 24 (.ref 235) rfl rfl rfl rfl rfl rfl ?_
    refine P_ld 26 (.int (i32 s.2.1)) rfl (fun _ => rfl) ?_
    refine P_iald2 27 66 (s.2.2.2 66) rfl rfl rfl g4 rfl ?_
    refine P_sto 29 [(6, .int (i32 ((s.2.2.2 66) s.2.1))), (5, .int (i32 ((s.2.2.2 67) s.2.1))), (0, .ref 189), (1, .int (i32 (j 1))), (2, .int (i32 v2)), (3, .int (i32 s.1)), (4, .int (i32 s.2.1))] rfl (fun _ => rfl) ?_
    refine P_gf 33 (.ref 234) rfl rfl rfl rfl rfl rfl ?_
    refine P_ld 35 (.int (i32 s.2.1)) rfl (fun _ => rfl) ?_
    refine P_iald2 36 65 (s.2.2.2 65) rfl rfl rfl g4 rfl ?_
    refine P_cs (fun h4 => ?_) (fun h4 => ?_)
    · skip
      refine P_cast 33 h4 ?_
      refine P_pop 338 rfl (fun _ => rfl) ?_
      refine P_gf 342 (.ref 322) rfl rfl rfl rfl rfl rfl ?_
      refine P_ld 343 (.int (i32 s.1)) rfl (fun _ => rfl) ?_
      refine P_ld 344 (.int (i32 1)) rfl (fun _ => rfl) ?_
      refine P_op 345 (cut (s.1 - 1)) _ rfl (fun _ => rfl) o_sub ?_
      refine P_ld 346 (.long (i64 1)) rfl (fun _ => rfl) ?_
      refine P_gf 350 (.ref 322) rfl rfl rfl rfl rfl rfl ?_
      refine P_ld 351 (.int (i32 s.1)) rfl (fun _ => rfl) ?_
      refine P_ld 352 (.int (i32 1)) rfl (fun _ => rfl) ?_
      refine P_op 353 (cut (s.1 - 1)) _ rfl (fun _ => rfl) o_sub ?_
      refine P_lald2 354 173 (s.2.2.2 173) rfl rfl rfl cut_r rfl ?_
      refine P_opl 355 (cutl (1 - ((s.2.2.2 173) (cut (s.1 - 1))))) _ rfl (fun _ => rfl) p_sub ?_
      refine P_last2 (a' := [(173, upI (s.2.2.2 173) (cut (s.1 - 1)) (cutl (1 - ((s.2.2.2 173) (cut (s.1 - 1))))))]) 356 173 (s.2.2.2 173) rfl rfl rfl cut_r rfl rfl ?_
      refine P_goto 442 rfl (fun _ => rfl) ?_
      refine P_lv (b := [(0, .ref 189), (1, .int (i32 (j 1))), (2, .int (i32 v2)), (3, .int (i32 s.1)), (4, .int (i32 s.2.1)), (5, .int (i32 ((s.2.2.2 67) s.2.1))), (6, .int (i32 ((s.2.2.2 66) s.2.1)))]) rfl rfl ⟨rfl, rfl, rfl, rfl, rfl, rfl, rfl, trivial⟩ ?_
      exact dg_worth_442 w c N D bb v2 s.1 s.2.1 q2 g3 g4 (mO s.2.2 [] [(173, upI (s.2.2.2 173) (cut (s.1 - 1)) (cutl (1 - ((s.2.2.2 173) (cut (s.1 - 1))))))]) (Cn_mO gm trivial ⟨(rE_ul (Cn_a gm 173) rfl cutl_r), trivial⟩) (jk [(1, j 1), (5, (s.2.2.2 67) s.2.1), (6, (s.2.2.2 66) s.2.1)]) Q2 H1 H2
    · skip
      refine P_cs (fun h5 => ?_) (fun h5 => ?_)
      · skip
        refine P_cast 126 h5 ?_
        refine P_pop 285 rfl (fun _ => rfl) ?_
        refine P_gf 289 (.ref 322) rfl rfl rfl rfl rfl rfl ?_
        refine P_ld 290 (.int (i32 s.1)) rfl (fun _ => rfl) ?_
        refine P_ld 291 (.int (i32 1)) rfl (fun _ => rfl) ?_
        refine P_op 292 (cut (s.1 - 1)) _ rfl (fun _ => rfl) o_sub ?_
        refine P_gf 296 (.ref 322) rfl rfl rfl rfl rfl rfl ?_
        refine P_ld 297 (.int (i32 s.1)) rfl (fun _ => rfl) ?_
        refine P_ld 298 (.int (i32 1)) rfl (fun _ => rfl) ?_
        refine P_op 299 (cut (s.1 - 1)) _ rfl (fun _ => rfl) o_sub ?_
        refine P_lald2 300 173 (s.2.2.2 173) rfl rfl rfl cut_r rfl ?_
        refine P_ld 303 (.long (i64 (-1))) rfl (fun _ => rfl) ?_
        refine P_opl 304 (xor64 ((s.2.2.2 173) (cut (s.1 - 1))) (-1)) _ rfl (fun _ => rfl) (Int64.ofInt_toInt _).symm ?_
        refine P_ld 306 (.int (i32 ((s.2.2.2 66) s.2.1))) rfl (fun _ => rfl) ?_
        refine P_cp2 309 315 [.long (i64 (xor64 ((s.2.2.2 173) (cut (s.1 - 1))) (-1))), .int (i32 ((s.2.2.2 66) s.2.1))] [.int (i32 (cut (s.1 - 1))), .ref 322] rfl (fun _ => rfl) rfl (D_cut w _ D (xor64 ((s.2.2.2 173) (cut (s.1 - 1))) (-1)) ((s.2.2.2 66) s.2.1) t64_r (rE_i (Cn_a gm 66) rfl _)) (fun y6 h7 => ?_)
        refine P_last2 (a' := [(173, upI (s.2.2.2 173) (cut (s.1 - 1)) y6)]) 310 173 (s.2.2.2 173) rfl rfl rfl cut_r rfl rfl ?_
        refine P_goto 442 rfl (fun _ => rfl) ?_
        refine P_lv (b := [(0, .ref 189), (1, .int (i32 (j 1))), (2, .int (i32 v2)), (3, .int (i32 s.1)), (4, .int (i32 s.2.1)), (5, .int (i32 ((s.2.2.2 67) s.2.1))), (6, .int (i32 ((s.2.2.2 66) s.2.1)))]) rfl rfl ⟨rfl, rfl, rfl, rfl, rfl, rfl, rfl, trivial⟩ ?_
        exact dg_worth_442 w c N D bb v2 s.1 s.2.1 q2 g3 g4 (mO s.2.2 [] [(173, upI (s.2.2.2 173) (cut (s.1 - 1)) y6)]) (Cn_mO gm trivial ⟨(rE_ul (Cn_a gm 173) rfl h7), trivial⟩) (jk [(1, j 1), (5, (s.2.2.2 67) s.2.1), (6, (s.2.2.2 66) s.2.1)]) Q2 H1 H2
      · skip
        refine P_cs (fun h8 => ?_) (fun h8 => ?_)
        · skip
          refine P_cast 400 h8 ?_
          refine P_pop 136 rfl (fun _ => rfl) ?_
          refine P_gf 140 (.ref 322) rfl rfl rfl rfl rfl rfl ?_
          refine P_ld 141 (.int (i32 s.1)) rfl (fun _ => rfl) ?_
          refine P_gf 145 (.ref 237) rfl rfl rfl rfl rfl rfl ?_
          refine P_ld 147 (.int (i32 s.2.1)) rfl (fun _ => rfl) ?_
          refine P_lald2 148 68 (s.2.2.2 68) rfl rfl rfl g4 rfl ?_
          refine P_last2 (a' := [(173, upI (s.2.2.2 173) s.1 ((s.2.2.2 68) s.2.1))]) 149 173 (s.2.2.2 173) rfl rfl rfl g3 rfl rfl ?_
          refine P_inc 152 [(3, .int (i32 (cut (s.1 + 1)))), (6, .int (i32 ((s.2.2.2 66) s.2.1))), (5, .int (i32 ((s.2.2.2 67) s.2.1))), (0, .ref 189), (1, .int (i32 (j 1))), (2, .int (i32 v2)), (4, .int (i32 s.2.1))] rfl rfl (by decide) rfl rfl ?_
          refine P_goto 442 rfl (fun _ => rfl) ?_
          refine P_lv (b := [(0, .ref 189), (1, .int (i32 (j 1))), (2, .int (i32 v2)), (3, .int (i32 (cut (s.1 + 1)))), (4, .int (i32 s.2.1)), (5, .int (i32 ((s.2.2.2 67) s.2.1))), (6, .int (i32 ((s.2.2.2 66) s.2.1)))]) rfl rfl ⟨rfl, rfl, rfl, rfl, rfl, rfl, rfl, trivial⟩ ?_
          exact dg_worth_442 w c N D bb v2 (cut (s.1 + 1)) s.2.1 q2 cut_r g4 (mO s.2.2 [] [(173, upI (s.2.2.2 173) s.1 ((s.2.2.2 68) s.2.1))]) (Cn_mO gm trivial ⟨(rE_ul (Cn_a gm 173) rfl (rE_l (Cn_a gm 68) rfl _)), trivial⟩) (jk [(1, j 1), (5, (s.2.2.2 67) s.2.1), (6, (s.2.2.2 66) s.2.1)]) Q2 H1 H2
        · skip
          refine P_cs (fun h9 => ?_) (fun h9 => ?_)
          · skip
            refine P_cast 401 h9 ?_
            refine P_pop 155 rfl (fun _ => rfl) ?_
            refine P_gf 159 (.ref 322) rfl rfl rfl rfl rfl rfl ?_
            refine P_ld 160 (.int (i32 s.1)) rfl (fun _ => rfl) ?_
            refine P_gf 164 (.ref 320) rfl rfl rfl rfl rfl rfl ?_
            refine P_ld 166 (.int (i32 ((s.2.2.2 67) s.2.1))) rfl (fun _ => rfl) ?_
            refine P_lald2 167 171 (s.2.2.2 171) rfl rfl rfl (rE_i (Cn_a gm 67) rfl _) rfl ?_
            refine P_last2 (a' := [(173, upI (s.2.2.2 173) s.1 ((s.2.2.2 171) ((s.2.2.2 67) s.2.1)))]) 168 173 (s.2.2.2 173) rfl rfl rfl g3 rfl rfl ?_
            refine P_inc 171 [(3, .int (i32 (cut (s.1 + 1)))), (6, .int (i32 ((s.2.2.2 66) s.2.1))), (5, .int (i32 ((s.2.2.2 67) s.2.1))), (0, .ref 189), (1, .int (i32 (j 1))), (2, .int (i32 v2)), (4, .int (i32 s.2.1))] rfl rfl (by decide) rfl rfl ?_
            refine P_goto 442 rfl (fun _ => rfl) ?_
            refine P_lv (b := [(0, .ref 189), (1, .int (i32 (j 1))), (2, .int (i32 v2)), (3, .int (i32 (cut (s.1 + 1)))), (4, .int (i32 s.2.1)), (5, .int (i32 ((s.2.2.2 67) s.2.1))), (6, .int (i32 ((s.2.2.2 66) s.2.1)))]) rfl rfl ⟨rfl, rfl, rfl, rfl, rfl, rfl, rfl, trivial⟩ ?_
            exact dg_worth_442 w c N D bb v2 (cut (s.1 + 1)) s.2.1 q2 cut_r g4 (mO s.2.2 [] [(173, upI (s.2.2.2 173) s.1 ((s.2.2.2 171) ((s.2.2.2 67) s.2.1)))]) (Cn_mO gm trivial ⟨(rE_ul (Cn_a gm 173) rfl (rE_l (Cn_a gm 171) rfl _)), trivial⟩) (jk [(1, j 1), (5, (s.2.2.2 67) s.2.1), (6, (s.2.2.2 66) s.2.1)]) Q2 H1 H2
          · skip
            refine P_cs (fun h10 => ?_) (fun h10 => ?_)
            · skip
              refine P_cast 402 h10 ?_
              refine P_pop 174 rfl (fun _ => rfl) ?_
              refine P_gf 178 (.ref 322) rfl rfl rfl rfl rfl rfl ?_
              refine P_ld 179 (.int (i32 s.1)) rfl (fun _ => rfl) ?_
              refine P_gf 183 (.ref 321) rfl rfl rfl rfl rfl rfl ?_
              refine P_ld 185 (.int (i32 ((s.2.2.2 67) s.2.1))) rfl (fun _ => rfl) ?_
              refine P_lald2 186 172 (s.2.2.2 172) rfl rfl rfl (rE_i (Cn_a gm 67) rfl _) rfl ?_
              refine P_last2 (a' := [(173, upI (s.2.2.2 173) s.1 ((s.2.2.2 172) ((s.2.2.2 67) s.2.1)))]) 187 173 (s.2.2.2 173) rfl rfl rfl g3 rfl rfl ?_
              refine P_inc 190 [(3, .int (i32 (cut (s.1 + 1)))), (6, .int (i32 ((s.2.2.2 66) s.2.1))), (5, .int (i32 ((s.2.2.2 67) s.2.1))), (0, .ref 189), (1, .int (i32 (j 1))), (2, .int (i32 v2)), (4, .int (i32 s.2.1))] rfl rfl (by decide) rfl rfl ?_
              refine P_goto 442 rfl (fun _ => rfl) ?_
              refine P_lv (b := [(0, .ref 189), (1, .int (i32 (j 1))), (2, .int (i32 v2)), (3, .int (i32 (cut (s.1 + 1)))), (4, .int (i32 s.2.1)), (5, .int (i32 ((s.2.2.2 67) s.2.1))), (6, .int (i32 ((s.2.2.2 66) s.2.1)))]) rfl rfl ⟨rfl, rfl, rfl, rfl, rfl, rfl, rfl, trivial⟩ ?_
              exact dg_worth_442 w c N D bb v2 (cut (s.1 + 1)) s.2.1 q2 cut_r g4 (mO s.2.2 [] [(173, upI (s.2.2.2 173) s.1 ((s.2.2.2 172) ((s.2.2.2 67) s.2.1)))]) (Cn_mO gm trivial ⟨(rE_ul (Cn_a gm 173) rfl (rE_l (Cn_a gm 172) rfl _)), trivial⟩) (jk [(1, j 1), (5, (s.2.2.2 67) s.2.1), (6, (s.2.2.2 66) s.2.1)]) Q2 H1 H2
            · skip
              refine P_cs (fun h11 => ?_) (fun h11 => ?_)
              · skip
                refine P_cast 403 h11 ?_
                refine P_pop 193 rfl (fun _ => rfl) ?_
                refine P_gf 197 (.ref 322) rfl rfl rfl rfl rfl rfl ?_
                refine P_ld 198 (.int (i32 s.1)) rfl (fun _ => rfl) ?_
                refine P_gf 202 (.ref 323) rfl rfl rfl rfl rfl rfl ?_
                refine P_ld 204 (.int (i32 ((s.2.2.2 67) s.2.1))) rfl (fun _ => rfl) ?_
                refine P_lald2 205 174 (s.2.2.2 174) rfl rfl rfl (rE_i (Cn_a gm 67) rfl _) rfl ?_
                refine P_last2 (a' := [(173, upI (s.2.2.2 173) s.1 ((s.2.2.2 174) ((s.2.2.2 67) s.2.1)))]) 206 173 (s.2.2.2 173) rfl rfl rfl g3 rfl rfl ?_
                refine P_inc 209 [(3, .int (i32 (cut (s.1 + 1)))), (6, .int (i32 ((s.2.2.2 66) s.2.1))), (5, .int (i32 ((s.2.2.2 67) s.2.1))), (0, .ref 189), (1, .int (i32 (j 1))), (2, .int (i32 v2)), (4, .int (i32 s.2.1))] rfl rfl (by decide) rfl rfl ?_
                refine P_goto 442 rfl (fun _ => rfl) ?_
                refine P_lv (b := [(0, .ref 189), (1, .int (i32 (j 1))), (2, .int (i32 v2)), (3, .int (i32 (cut (s.1 + 1)))), (4, .int (i32 s.2.1)), (5, .int (i32 ((s.2.2.2 67) s.2.1))), (6, .int (i32 ((s.2.2.2 66) s.2.1)))]) rfl rfl ⟨rfl, rfl, rfl, rfl, rfl, rfl, rfl, trivial⟩ ?_
                exact dg_worth_442 w c N D bb v2 (cut (s.1 + 1)) s.2.1 q2 cut_r g4 (mO s.2.2 [] [(173, upI (s.2.2.2 173) s.1 ((s.2.2.2 174) ((s.2.2.2 67) s.2.1)))]) (Cn_mO gm trivial ⟨(rE_ul (Cn_a gm 173) rfl (rE_l (Cn_a gm 174) rfl _)), trivial⟩) (jk [(1, j 1), (5, (s.2.2.2 67) s.2.1), (6, (s.2.2.2 66) s.2.1)]) Q2 H1 H2
              · skip
                refine P_cs (fun h12 => ?_) (fun h12 => ?_)
                · skip
                  refine P_cast 404 h12 ?_
                  refine P_pop 212 rfl (fun _ => rfl) ?_
                  refine P_gf 216 (.ref 322) rfl rfl rfl rfl rfl rfl ?_
                  refine P_ld 217 (.int (i32 s.1)) rfl (fun _ => rfl) ?_
                  refine P_gf 221 (.ref 324) rfl rfl rfl rfl rfl rfl ?_
                  refine P_ld 223 (.int (i32 ((s.2.2.2 67) s.2.1))) rfl (fun _ => rfl) ?_
                  refine P_bald2 224 175 (s.2.2.2 175) rfl rfl rfl (rE_i (Cn_a gm 67) rfl _) rfl ?_
                  refine P_cp2 227 328 [.int (i32 ((s.2.2.2 175) ((s.2.2.2 67) s.2.1)))] [.int (i32 s.1), .ref 322] rfl (fun _ => rfl) rfl (D_one w _ D ((s.2.2.2 175) ((s.2.2.2 67) s.2.1)) (rE_i (Cn_a gm 175) rfl _)) (fun y13 h14 => ?_)
                  refine P_last2 (a' := [(173, upI (s.2.2.2 173) s.1 y13)]) 228 173 (s.2.2.2 173) rfl rfl rfl g3 rfl rfl ?_
                  refine P_inc 231 [(3, .int (i32 (cut (s.1 + 1)))), (6, .int (i32 ((s.2.2.2 66) s.2.1))), (5, .int (i32 ((s.2.2.2 67) s.2.1))), (0, .ref 189), (1, .int (i32 (j 1))), (2, .int (i32 v2)), (4, .int (i32 s.2.1))] rfl rfl (by decide) rfl rfl ?_
                  refine P_goto 442 rfl (fun _ => rfl) ?_
                  refine P_lv (b := [(0, .ref 189), (1, .int (i32 (j 1))), (2, .int (i32 v2)), (3, .int (i32 (cut (s.1 + 1)))), (4, .int (i32 s.2.1)), (5, .int (i32 ((s.2.2.2 67) s.2.1))), (6, .int (i32 ((s.2.2.2 66) s.2.1)))]) rfl rfl ⟨rfl, rfl, rfl, rfl, rfl, rfl, rfl, trivial⟩ ?_
                  exact dg_worth_442 w c N D bb v2 (cut (s.1 + 1)) s.2.1 q2 cut_r g4 (mO s.2.2 [] [(173, upI (s.2.2.2 173) s.1 y13)]) (Cn_mO gm trivial ⟨(rE_ul (Cn_a gm 173) rfl h14), trivial⟩) (jk [(1, j 1), (5, (s.2.2.2 67) s.2.1), (6, (s.2.2.2 66) s.2.1)]) Q2 H1 H2
                · skip
                  refine P_cs (fun h15 => ?_) (fun h15 => ?_)
                  · skip
                    refine P_cast 405 h15 ?_
                    refine P_pop 234 rfl (fun _ => rfl) ?_
                    refine P_gf 238 (.ref 322) rfl rfl rfl rfl rfl rfl ?_
                    refine P_ld 239 (.int (i32 s.1)) rfl (fun _ => rfl) ?_
                    refine P_ld 240 (.int (i32 1)) rfl (fun _ => rfl) ?_
                    refine P_op 241 (cut (s.1 - 1)) _ rfl (fun _ => rfl) o_sub ?_
                    refine P_gf 245 (.ref 322) rfl rfl rfl rfl rfl rfl ?_
                    refine P_ld 246 (.int (i32 s.1)) rfl (fun _ => rfl) ?_
                    refine P_ld 247 (.int (i32 1)) rfl (fun _ => rfl) ?_
                    refine P_op 248 (cut (s.1 - 1)) _ rfl (fun _ => rfl) o_sub ?_
                    refine P_lald2 249 173 (s.2.2.2 173) rfl rfl rfl cut_r rfl ?_
                    refine P_ld 251 (.int (i32 ((s.2.2.2 67) s.2.1))) rfl (fun _ => rfl) ?_
                    refine P_opl 252 (ushr64 ((s.2.2.2 173) (cut (s.1 - 1))) ((s.2.2.2 67) s.2.1)) _ rfl (fun _ => rfl) (Int64.ofInt_toInt _).symm ?_
                    refine P_ld 254 (.int (i32 ((s.2.2.2 66) s.2.1))) rfl (fun _ => rfl) ?_
                    refine P_cp2 257 315 [.long (i64 (ushr64 ((s.2.2.2 173) (cut (s.1 - 1))) ((s.2.2.2 67) s.2.1))), .int (i32 ((s.2.2.2 66) s.2.1))] [.int (i32 (cut (s.1 - 1))), .ref 322] rfl (fun _ => rfl) rfl (D_cut w _ D (ushr64 ((s.2.2.2 173) (cut (s.1 - 1))) ((s.2.2.2 67) s.2.1)) ((s.2.2.2 66) s.2.1) t64_r (rE_i (Cn_a gm 66) rfl _)) (fun y16 h17 => ?_)
                    refine P_last2 (a' := [(173, upI (s.2.2.2 173) (cut (s.1 - 1)) y16)]) 258 173 (s.2.2.2 173) rfl rfl rfl cut_r rfl rfl ?_
                    refine P_goto 442 rfl (fun _ => rfl) ?_
                    refine P_lv (b := [(0, .ref 189), (1, .int (i32 (j 1))), (2, .int (i32 v2)), (3, .int (i32 s.1)), (4, .int (i32 s.2.1)), (5, .int (i32 ((s.2.2.2 67) s.2.1))), (6, .int (i32 ((s.2.2.2 66) s.2.1)))]) rfl rfl ⟨rfl, rfl, rfl, rfl, rfl, rfl, rfl, trivial⟩ ?_
                    exact dg_worth_442 w c N D bb v2 s.1 s.2.1 q2 g3 g4 (mO s.2.2 [] [(173, upI (s.2.2.2 173) (cut (s.1 - 1)) y16)]) (Cn_mO gm trivial ⟨(rE_ul (Cn_a gm 173) rfl h17), trivial⟩) (jk [(1, j 1), (5, (s.2.2.2 67) s.2.1), (6, (s.2.2.2 66) s.2.1)]) Q2 H1 H2
                  · skip
                    refine P_cs (fun h18 => ?_) (fun h18 => ?_)
                    · skip
                      refine P_cast 406 h18 ?_
                      refine P_pop 261 rfl (fun _ => rfl) ?_
                      refine P_gf 265 (.ref 322) rfl rfl rfl rfl rfl rfl ?_
                      refine P_ld 266 (.int (i32 s.1)) rfl (fun _ => rfl) ?_
                      refine P_ld 267 (.int (i32 1)) rfl (fun _ => rfl) ?_
                      refine P_op 268 (cut (s.1 - 1)) _ rfl (fun _ => rfl) o_sub ?_
                      refine P_gf 272 (.ref 322) rfl rfl rfl rfl rfl rfl ?_
                      refine P_ld 273 (.int (i32 s.1)) rfl (fun _ => rfl) ?_
                      refine P_ld 274 (.int (i32 1)) rfl (fun _ => rfl) ?_
                      refine P_op 275 (cut (s.1 - 1)) _ rfl (fun _ => rfl) o_sub ?_
                      refine P_lald2 276 173 (s.2.2.2 173) rfl rfl rfl cut_r rfl ?_
                      refine P_ld 278 (.int (i32 ((s.2.2.2 66) s.2.1))) rfl (fun _ => rfl) ?_
                      refine P_cp2 281 315 [.long (i64 ((s.2.2.2 173) (cut (s.1 - 1)))), .int (i32 ((s.2.2.2 66) s.2.1))] [.int (i32 (cut (s.1 - 1))), .ref 322] rfl (fun _ => rfl) rfl (D_cut w _ D ((s.2.2.2 173) (cut (s.1 - 1))) ((s.2.2.2 66) s.2.1) (rE_l (Cn_a gm 173) rfl _) (rE_i (Cn_a gm 66) rfl _)) (fun y19 h20 => ?_)
                      refine P_last2 (a' := [(173, upI (s.2.2.2 173) (cut (s.1 - 1)) y19)]) 282 173 (s.2.2.2 173) rfl rfl rfl cut_r rfl rfl ?_
                      refine P_goto 442 rfl (fun _ => rfl) ?_
                      refine P_lv (b := [(0, .ref 189), (1, .int (i32 (j 1))), (2, .int (i32 v2)), (3, .int (i32 s.1)), (4, .int (i32 s.2.1)), (5, .int (i32 ((s.2.2.2 67) s.2.1))), (6, .int (i32 ((s.2.2.2 66) s.2.1)))]) rfl rfl ⟨rfl, rfl, rfl, rfl, rfl, rfl, rfl, trivial⟩ ?_
                      exact dg_worth_442 w c N D bb v2 s.1 s.2.1 q2 g3 g4 (mO s.2.2 [] [(173, upI (s.2.2.2 173) (cut (s.1 - 1)) y19)]) (Cn_mO gm trivial ⟨(rE_ul (Cn_a gm 173) rfl h20), trivial⟩) (jk [(1, j 1), (5, (s.2.2.2 67) s.2.1), (6, (s.2.2.2 66) s.2.1)]) Q2 H1 H2
                    · skip
                      refine P_cs (fun h21 => ?_) (fun h21 => ?_)
                      · skip
                        refine P_cast 407 h21 ?_
                        refine P_pop 359 rfl (fun _ => rfl) ?_
                        refine P_inc 362 [(3, .int (i32 (cut (s.1 + (-2))))), (6, .int (i32 ((s.2.2.2 66) s.2.1))), (5, .int (i32 ((s.2.2.2 67) s.2.1))), (0, .ref 189), (1, .int (i32 (j 1))), (2, .int (i32 v2)), (4, .int (i32 s.2.1))] rfl rfl (by decide) rfl rfl ?_
                        refine P_gf 366 (.ref 322) rfl rfl rfl rfl rfl rfl ?_
                        refine P_ld 367 (.int (i32 (cut (s.1 + (-2))))) rfl (fun _ => rfl) ?_
                        refine P_ld 368 (.int (i32 1)) rfl (fun _ => rfl) ?_
                        refine P_op 369 (cut ((cut (s.1 + (-2))) - 1)) _ rfl (fun _ => rfl) o_sub ?_
                        refine P_gf 373 (.ref 322) rfl rfl rfl rfl rfl rfl ?_
                        refine P_ld 374 (.int (i32 (cut (s.1 + (-2))))) rfl (fun _ => rfl) ?_
                        refine P_ld 375 (.int (i32 1)) rfl (fun _ => rfl) ?_
                        refine P_op 376 (cut ((cut (s.1 + (-2))) - 1)) _ rfl (fun _ => rfl) o_sub ?_
                        refine P_lald2 377 173 (s.2.2.2 173) rfl rfl rfl cut_r rfl ?_
                        refine P_ld 378 (.long (i64 1)) rfl (fun _ => rfl) ?_
                        refine P_op 379 (cmp64 ((s.2.2.2 173) (cut ((cut (s.1 + (-2))) - 1))) 1) _ rfl (fun _ => rfl) (o_cmp (rE_l (Cn_a gm 173) rfl _) (l64 1 rfl)) ?_
                        refine P_ifE 391 382 rfl rfl rfl cmp64_r rfl (fun h22 => ?_) (fun h22 => ?_)
                        · skip
                          refine P_gf 386 (.ref 322) rfl rfl rfl rfl rfl rfl ?_
                          refine P_ld 387 (.int (i32 (cut (s.1 + (-2))))) rfl (fun _ => rfl) ?_
                          refine P_lald2 388 173 (s.2.2.2 173) rfl rfl rfl cut_r rfl ?_
                          refine P_goto 399 rfl (fun _ => rfl) ?_
                          refine P_lv (b := [(0, .ref 189), (1, .int (i32 (j 1))), (2, .int (i32 v2)), (3, .int (i32 (cut (s.1 + (-2))))), (4, .int (i32 s.2.1)), (5, .int (i32 ((s.2.2.2 67) s.2.1))), (6, .int (i32 ((s.2.2.2 66) s.2.1)))]) rfl rfl ⟨rfl, rfl, rfl, rfl, rfl, rfl, rfl, trivial⟩ ?_
                          exact dg_worth_399 w c N D bb v2 (cut (s.1 + (-2))) s.2.1 (cut ((cut (s.1 + (-2))) - 1)) ((s.2.2.2 173) (cut (s.1 + (-2)))) q2 cut_r g4 cut_r (rE_l (Cn_a gm 173) rfl _) s.2.2 gm (jk [(1, j 1), (5, (s.2.2.2 67) s.2.1), (6, (s.2.2.2 66) s.2.1)]) Q2 H1 H2
                        · skip
                          refine P_gf 395 (.ref 322) rfl rfl rfl rfl rfl rfl ?_
                          refine P_ld 396 (.int (i32 (cut (s.1 + (-2))))) rfl (fun _ => rfl) ?_
                          refine P_ld 397 (.int (i32 1)) rfl (fun _ => rfl) ?_
                          refine P_op 398 (cut ((cut (s.1 + (-2))) + 1)) _ rfl (fun _ => rfl) o_add ?_
                          refine P_lald2 399 173 (s.2.2.2 173) rfl rfl rfl cut_r rfl ?_
                          refine P_lv (b := [(0, .ref 189), (1, .int (i32 (j 1))), (2, .int (i32 v2)), (3, .int (i32 (cut (s.1 + (-2))))), (4, .int (i32 s.2.1)), (5, .int (i32 ((s.2.2.2 67) s.2.1))), (6, .int (i32 ((s.2.2.2 66) s.2.1)))]) rfl rfl ⟨rfl, rfl, rfl, rfl, rfl, rfl, rfl, trivial⟩ ?_
                          exact dg_worth_399 w c N D bb v2 (cut (s.1 + (-2))) s.2.1 (cut ((cut (s.1 + (-2))) - 1)) ((s.2.2.2 173) (cut ((cut (s.1 + (-2))) + 1))) q2 cut_r g4 cut_r (rE_l (Cn_a gm 173) rfl _) s.2.2 gm (jk [(1, j 1), (5, (s.2.2.2 67) s.2.1), (6, (s.2.2.2 66) s.2.1)]) Q2 H1 H2
                      · skip
                        refine P_cs (fun h23 => ?_) (fun h23 => ?_)
                        · skip
                          refine P_cast 408 h23 ?_
                          refine P_pop 313 rfl (fun _ => rfl) ?_
                          refine P_gf 317 (.ref 322) rfl rfl rfl rfl rfl rfl ?_
                          refine P_ld 318 (.int (i32 s.1)) rfl (fun _ => rfl) ?_
                          refine P_ld 319 (.int (i32 1)) rfl (fun _ => rfl) ?_
                          refine P_op 320 (cut (s.1 - 1)) _ rfl (fun _ => rfl) o_sub ?_
                          refine P_gf 324 (.ref 322) rfl rfl rfl rfl rfl rfl ?_
                          refine P_ld 325 (.int (i32 s.1)) rfl (fun _ => rfl) ?_
                          refine P_ld 326 (.int (i32 1)) rfl (fun _ => rfl) ?_
                          refine P_op 327 (cut (s.1 - 1)) _ rfl (fun _ => rfl) o_sub ?_
                          refine P_lald2 328 173 (s.2.2.2 173) rfl rfl rfl cut_r rfl ?_
                          refine P_opl 329 (neg64 ((s.2.2.2 173) (cut (s.1 - 1)))) _ rfl (fun _ => rfl) (Int64.ofInt_toInt _).symm ?_
                          refine P_ld 331 (.int (i32 ((s.2.2.2 66) s.2.1))) rfl (fun _ => rfl) ?_
                          refine P_cp2 334 315 [.long (i64 (neg64 ((s.2.2.2 173) (cut (s.1 - 1))))), .int (i32 ((s.2.2.2 66) s.2.1))] [.int (i32 (cut (s.1 - 1))), .ref 322] rfl (fun _ => rfl) rfl (D_cut w _ D (neg64 ((s.2.2.2 173) (cut (s.1 - 1)))) ((s.2.2.2 66) s.2.1) t64_r (rE_i (Cn_a gm 66) rfl _)) (fun y24 h25 => ?_)
                          refine P_last2 (a' := [(173, upI (s.2.2.2 173) (cut (s.1 - 1)) y24)]) 335 173 (s.2.2.2 173) rfl rfl rfl cut_r rfl rfl ?_
                          refine P_goto 442 rfl (fun _ => rfl) ?_
                          refine P_lv (b := [(0, .ref 189), (1, .int (i32 (j 1))), (2, .int (i32 v2)), (3, .int (i32 s.1)), (4, .int (i32 s.2.1)), (5, .int (i32 ((s.2.2.2 67) s.2.1))), (6, .int (i32 ((s.2.2.2 66) s.2.1)))]) rfl rfl ⟨rfl, rfl, rfl, rfl, rfl, rfl, rfl, trivial⟩ ?_
                          exact dg_worth_442 w c N D bb v2 s.1 s.2.1 q2 g3 g4 (mO s.2.2 [] [(173, upI (s.2.2.2 173) (cut (s.1 - 1)) y24)]) (Cn_mO gm trivial ⟨(rE_ul (Cn_a gm 173) rfl h25), trivial⟩) (jk [(1, j 1), (5, (s.2.2.2 67) s.2.1), (6, (s.2.2.2 66) s.2.1)]) Q2 H1 H2
                        · skip
                          refine P_lkd 403 rfl rfl (rE_i (Cn_a gm 65) rfl _) (by simp [Op.lookupswitch.offset, h4, Ne.symm h4, h5, Ne.symm h5, h8, Ne.symm h8, h9, Ne.symm h9, h10, Ne.symm h10, h11, Ne.symm h11, h12, Ne.symm h12, h15, Ne.symm h15, h18, Ne.symm h18, h21, Ne.symm h21, h23, Ne.symm h23]) ?_
                          refine P_inc 406 [(3, .int (i32 (cut (s.1 + (-1))))), (6, .int (i32 ((s.2.2.2 66) s.2.1))), (5, .int (i32 ((s.2.2.2 67) s.2.1))), (0, .ref 189), (1, .int (i32 (j 1))), (2, .int (i32 v2)), (4, .int (i32 s.2.1))] rfl rfl (by decide) rfl rfl ?_
                          refine P_gf 410 (.ref 322) rfl rfl rfl rfl rfl rfl ?_
                          refine P_ld 411 (.int (i32 (cut (s.1 + (-1))))) rfl (fun _ => rfl) ?_
                          refine P_ld 412 (.int (i32 1)) rfl (fun _ => rfl) ?_
                          refine P_op 413 (cut ((cut (s.1 + (-1))) - 1)) _ rfl (fun _ => rfl) o_sub ?_
                          refine P_gf 417 (.ref 234) rfl rfl rfl rfl rfl rfl ?_
                          refine P_ld 419 (.int (i32 s.2.1)) rfl (fun _ => rfl) ?_
                          refine P_iald2 420 65 (s.2.2.2 65) rfl rfl rfl g4 rfl ?_
                          refine P_ld 422 (.int (i32 ((s.2.2.2 66) s.2.1))) rfl (fun _ => rfl) ?_
                          refine P_ld 424 (.int (i32 ((s.2.2.2 67) s.2.1))) rfl (fun _ => rfl) ?_
                          refine P_gf 428 (.ref 322) rfl rfl rfl rfl rfl rfl ?_
                          refine P_ld 429 (.int (i32 (cut (s.1 + (-1))))) rfl (fun _ => rfl) ?_
                          refine P_ld 430 (.int (i32 1)) rfl (fun _ => rfl) ?_
                          refine P_op 431 (cut ((cut (s.1 + (-1))) - 1)) _ rfl (fun _ => rfl) o_sub ?_
                          refine P_lald2 432 173 (s.2.2.2 173) rfl rfl rfl cut_r rfl ?_
                          refine P_gf 436 (.ref 322) rfl rfl rfl rfl rfl rfl ?_
                          refine P_ld 437 (.int (i32 (cut (s.1 + (-1))))) rfl (fun _ => rfl) ?_
                          refine P_lald2 438 173 (s.2.2.2 173) rfl rfl rfl cut_r rfl ?_
                          refine P_cp2 441 329 [.int (i32 ((s.2.2.2 65) s.2.1)), .int (i32 ((s.2.2.2 66) s.2.1)), .int (i32 ((s.2.2.2 67) s.2.1)), .long (i64 ((s.2.2.2 173) (cut ((cut (s.1 + (-1))) - 1)))), .long (i64 ((s.2.2.2 173) (cut (s.1 + (-1)))))] [.int (i32 (cut ((cut (s.1 + (-1))) - 1))), .ref 322] rfl (fun _ => rfl) rfl (D_twoOf w _ D ((s.2.2.2 65) s.2.1) ((s.2.2.2 66) s.2.1) ((s.2.2.2 67) s.2.1) ((s.2.2.2 173) (cut ((cut (s.1 + (-1))) - 1))) ((s.2.2.2 173) (cut (s.1 + (-1)))) (rE_i (Cn_a gm 65) rfl _) (rE_i (Cn_a gm 66) rfl _) (rE_i (Cn_a gm 67) rfl _) (rE_l (Cn_a gm 173) rfl _) (rE_l (Cn_a gm 173) rfl _)) (fun y26 h27 => ?_)
                          refine P_last2 (a' := [(173, upI (s.2.2.2 173) (cut ((cut (s.1 + (-1))) - 1)) y26)]) 442 173 (s.2.2.2 173) rfl rfl rfl cut_r rfl rfl ?_
                          refine P_lv (b := [(0, .ref 189), (1, .int (i32 (j 1))), (2, .int (i32 v2)), (3, .int (i32 (cut (s.1 + (-1))))), (4, .int (i32 s.2.1)), (5, .int (i32 ((s.2.2.2 67) s.2.1))), (6, .int (i32 ((s.2.2.2 66) s.2.1)))]) rfl rfl ⟨rfl, rfl, rfl, rfl, rfl, rfl, rfl, trivial⟩ ?_
                          exact dg_worth_442 w c N D bb v2 (cut (s.1 + (-1))) s.2.1 q2 cut_r g4 (mO s.2.2 [] [(173, upI (s.2.2.2 173) (cut ((cut (s.1 + (-1))) - 1)) y26)]) (Cn_mO gm trivial ⟨(rE_ul (Cn_a gm 173) rfl h27), trivial⟩) (jk [(1, j 1), (5, (s.2.2.2 67) s.2.1), (6, (s.2.2.2 66) s.2.1)]) Q2 H1 H2
def rf_worth (v1 : Int) (v2 : Int) (m : mR) : Option (Int × mR) :=
  bnd (whl (rfb_worth_5 v2) (0, v1, m)) (fun e28 : mR =>
    rfl_worth_448 e28)
theorem D_worth (w : wX) (m : mR) (c : Nat → Option am_C) (N D : Nat) (hm : Cn m) (v1 : Int) (v2 : Int) (q1 : R32 v1) (q2 : R32 v2) : PC w D 327 [.ref 189, .int (i32 v1), .int (i32 v2)] (mhp m c, N) (QS (FR2 c N) (rf_worth v1 v2 m)) := by
  refine Pc_of (fun D bb => ?_) D
  unfold rf_worth
  show PP bb w D pm_327 (0, [(0, .ref 189), (1, .int (i32 v1)), (2, .int (i32 v2))], [], (mhp (mO m [] []) c, N), 0, 0) _
  refine P_ld 1 (.int (i32 0)) rfl (fun _ => rfl) ?_
  refine P_sto 2 [(3, .int (i32 0)), (0, .ref 189), (1, .int (i32 v1)), (2, .int (i32 v2))] rfl (fun _ => rfl) ?_
  refine P_ld 3 (.int (i32 v1)) rfl (fun _ => rfl) ?_
  refine P_sto 5 [(4, .int (i32 v1)), (3, .int (i32 0)), (0, .ref 189), (1, .int (i32 v1)), (2, .int (i32 v2))] rfl (fun _ => rfl) ?_
  refine P_lv (b := [(0, .ref 189), (1, .int (i32 v1)), (2, .int (i32 v2)), (3, .int (i32 0)), (4, .int (i32 v1)), (5, .int (i32 0)), (6, .int (i32 0))]) rfl rfl ⟨rfl, rfl, rfl, rfl, rfl, trivial⟩ ?_
  refine P_bnd ?_
  refine P_whl (fun bb Q2 H1 H2 s9 j9 hs9 => dh_worth_5 w c N D v2 q2 bb Q2 H1 H2 s9 j9 hs9) bb (fun e28 j q29 => ?_) (0, v1, m) (jk [(1, v1)]) ⟨(l32 0 rfl), q1, hm⟩
  have q30 := q29
  show PP bb w D pm_327 (448, [(0, .ref 189), (1, .int (i32 (j 1))), (2, .int (i32 (j 2))), (3, .int (i32 (j 3))), (4, .int (i32 (j 4))), (5, .int (i32 (j 5))), (6, .int (i32 (j 6)))], [], (mhp (mO e28 [] []) c, N), 0, 0) (QS _ (rfl_worth_448 e28))
  exact dg_worth_448 w c N D bb e28 q30 (jk [(1, j 1), (2, j 2), (3, j 3), (4, j 4), (5, j 5), (6, j 6)])
end X55BD
