noncomputable section X55BF
def cs_matches_5 (s : Int × Int) : Prop := R32 s.1 ∧ R32 s.2
def cx_matches_5 : (Int) → Prop := (fun (e : Int) => R32 e)
def hd_matches_5 (c : Nat → Option am_C) (N : Nat) (v1 : Int) (v2 : Int) (m : mR) (s : Int × Int) (j : Nat → Int) : ag_St af_T := (5, [(0, .ref 189), (1, .int (i32 v1)), (2, .int (i32 v2)), (3, .int (i32 s.1)), (4, .int (i32 s.2))], [], (mhp m c, N), 0, 0)
def ex_matches_5 (c : Nat → Option am_C) (N : Nat) (v1 : Int) (v2 : Int) (m : mR) : (Int) → (Nat → Int) → ag_St af_T := (fun (e : Int) (j : Nat → Int) => ((76, [(0, .ref 189), (1, .int (i32 (j 1))), (2, .int (i32 (j 2))), (3, .int (i32 e)), (4, .int (i32 (j 4)))], [], (mhp m c, N), 0, 0) : ag_St af_T))
def rfl_matches_69 (v1 : Int) (v2 : Int) (v4 : Int) (u0 : Int) (m : mR) : Option (Sum (Int × Int) (Int)) :=
  some (.inl (u0, cut (v4 + 1)))
theorem dg_matches_69 (w : wX) (c : Nat → Option am_C) (N D : Nat) (bb : Nat) (v1 : Int) (v2 : Int) (v4 : Int) (u0 : Int) (q1 : R32 v1) (q2 : R32 v2) (q4 : R32 v4) (r0 : R32 u0) (m : mR) (hm : Cn m) (j : Nat → Int) (Q2 : Sum (Int × Int) (Int) → ag_Re af_T → Prop) (H1 : ∀ s j, cs_matches_5 s → PP bb w D pm_337 (hd_matches_5 c N v1 v2 m s j) (Q2 (.inl s))) (H2 : ∀ x j, cx_matches_5 x → PP bb w D pm_337 (ex_matches_5 c N v1 v2 m x j) (Q2 (.inr x))) : PP bb w D pm_337 (69, [(0, .ref 189), (1, .int (i32 v1)), (2, .int (i32 v2)), (3, .int (i32 (j 3))), (4, .int (i32 v4))], [.int (i32 u0)], (mhp m c, N), 0, 0) (QS Q2 (rfl_matches_69 v1 v2 v4 u0 m)) := by
  unfold rfl_matches_69
  show PP bb w D pm_337 (69, [(0, .ref 189), (1, .int (i32 v1)), (2, .int (i32 v2)), (3, .int (i32 (j 3))), (4, .int (i32 v4))], [.int (i32 u0)], (mhp (mO m [] []) c, N), 0, 0) _
  refine P_sto 70 [(3, .int (i32 u0)), (0, .ref 189), (1, .int (i32 v1)), (2, .int (i32 v2)), (4, .int (i32 v4))] rfl (fun _ => rfl) ?_
  refine P_inc 73 [(4, .int (i32 (cut (v4 + 1)))), (3, .int (i32 u0)), (0, .ref 189), (1, .int (i32 v1)), (2, .int (i32 v2))] rfl rfl (by decide) rfl rfl ?_
  refine P_goto 5 rfl (fun _ => rfl) ?_
  refine P_some ?_
  refine P_lv (b := [(0, .ref 189), (1, .int (i32 v1)), (2, .int (i32 v2)), (3, .int (i32 u0)), (4, .int (i32 (cut (v4 + 1))))]) rfl rfl ⟨rfl, rfl, rfl, rfl, rfl, trivial⟩ ?_
  exact H1 (u0, cut (v4 + 1)) (jk []) ⟨r0, cut_r⟩
def rfl_matches_68 (v1 : Int) (v2 : Int) (v4 : Int) (m : mR) : Option (Sum (Int × Int) (Int)) :=
  rfl_matches_69 v1 v2 v4 0 m
theorem dg_matches_68 (w : wX) (c : Nat → Option am_C) (N D : Nat) (bb : Nat) (v1 : Int) (v2 : Int) (v4 : Int) (q1 : R32 v1) (q2 : R32 v2) (q4 : R32 v4) (m : mR) (hm : Cn m) (j : Nat → Int) (Q2 : Sum (Int × Int) (Int) → ag_Re af_T → Prop) (H1 : ∀ s j, cs_matches_5 s → PP bb w D pm_337 (hd_matches_5 c N v1 v2 m s j) (Q2 (.inl s))) (H2 : ∀ x j, cx_matches_5 x → PP bb w D pm_337 (ex_matches_5 c N v1 v2 m x j) (Q2 (.inr x))) : PP bb w D pm_337 (68, [(0, .ref 189), (1, .int (i32 v1)), (2, .int (i32 v2)), (3, .int (i32 (j 3))), (4, .int (i32 v4))], [], (mhp m c, N), 0, 0) (QS Q2 (rfl_matches_68 v1 v2 v4 m)) := by
  unfold rfl_matches_68
  show PP bb w D pm_337 (68, [(0, .ref 189), (1, .int (i32 v1)), (2, .int (i32 v2)), (3, .int (i32 (j 3))), (4, .int (i32 v4))], [], (mhp (mO m [] []) c, N), 0, 0) _
  refine P_ld 69 (.int (i32 0)) rfl (fun _ => rfl) ?_
  exact dg_matches_69 w c N D bb v1 v2 v4 0 q1 q2 q4 (l32 0 rfl) m hm (jk [(3, j 3)]) Q2 H1 H2
def rfb_matches_5 (v1 : Int) (v2 : Int) (m : mR) (s : Int × Int) : Option (Sum (Int × Int) (Int)) :=
  if (m.2 51) v1 ≤ s.2 then
    some (.inr s.1)
  else
    if s.1 = 0 then
      rfl_matches_68 v1 v2 s.2 m
    else
      bnd (rf_slot v1 v2 m) fun y5 =>
      bnd (rf_slot v1 v2 m) fun y7 =>
      if cmp64 (and64 ((m.2 178) s.2) ((m.2 143) (cut ((cut (4 * y5)) + s.2)))) ((m.2 142) (cut ((cut (4 * y7)) + s.2))) = 0 then
        rfl_matches_69 v1 v2 s.2 1 m
      else
        rfl_matches_68 v1 v2 s.2 m
theorem dh_matches_5 (w : wX) (c : Nat → Option am_C) (N D : Nat) (v1 : Int) (v2 : Int) (q1 : R32 v1) (q2 : R32 v2) (m : mR) (hm : Cn m) (bb : Nat) (Q2 : Sum (Int × Int) (Int) → ag_Re af_T → Prop) (H1 : ∀ s j, cs_matches_5 s → PP bb w D pm_337 (hd_matches_5 c N v1 v2 m s j) (Q2 (.inl s))) (H2 : ∀ x j, cx_matches_5 x → PP bb w D pm_337 (ex_matches_5 c N v1 v2 m x j) (Q2 (.inr x))) (s : Int × Int) (j : Nat → Int) (hs : cs_matches_5 s) : PP (bb + 1) w D pm_337 (hd_matches_5 c N v1 v2 m s j) (QS Q2 (rfb_matches_5 v1 v2 m s)) := by
  obtain ⟨g3, g4⟩ := hs
  unfold rfb_matches_5
  show PP (bb + 1) w D pm_337 (5, [(0, .ref 189), (1, .int (i32 v1)), (2, .int (i32 v2)), (3, .int (i32 s.1)), (4, .int (i32 s.2))], [], (mhp (mO m [] []) c, N), 0, 0) _
  refine P1_ld 7 (.int (i32 s.2)) rfl (fun _ => rfl) ?_
  refine P_gf 11 (.ref 221) rfl rfl rfl rfl rfl rfl ?_
  refine P_ld 12 (.int (i32 v1)) rfl (fun _ => rfl) ?_
  refine P_iald2 13 51 (m.2 51) rfl rfl rfl q1 rfl ?_
  refine P_icF 76 16 rfl rfl rfl g4 (rE_i (Cn_a hm 51) rfl _) rfl (fun h3 => ?_) (fun h3 => ?_)
  · skip
    refine P_some ?_
    exact H2 s.1 (jk [(1, v1), (2, v2), (4, s.2)]) g3
  · skip
    refine P_ld 17 (.int (i32 s.1)) rfl (fun _ => rfl) ?_
    refine P_ifF 68 20 rfl rfl rfl g3 rfl (fun h4 => ?_) (fun h4 => ?_)
    · skip
      exact dg_matches_68 w c N D bb v1 v2 s.2 q1 q2 g4 m hm (jk [(3, s.1)]) Q2 H1 H2
    · skip
      refine P_gf 24 (.ref 325) rfl rfl rfl rfl rfl rfl ?_
      refine P_ld 26 (.int (i32 s.2)) rfl (fun _ => rfl) ?_
      refine P_lald2 27 178 (m.2 178) rfl rfl rfl g4 rfl ?_
      refine P_gf 31 (.ref 297) rfl rfl rfl rfl rfl rfl ?_
      refine P_ld 32 (.int (i32 4)) rfl (fun _ => rfl) ?_
      refine P_ld 33 (.ref 189) rfl (fun _ => rfl) ?_
      refine P_ld 34 (.int (i32 v1)) rfl (fun _ => rfl) ?_
      refine P_ld 35 (.int (i32 v2)) rfl (fun _ => rfl) ?_
      refine P_cp1 38 319 [.ref 189, .int (i32 v1), .int (i32 v2)] [.int (i32 4), .ref 297, .long (i64 ((m.2 178) s.2))] rfl (fun _ => rfl) rfl (D_slot w m c N D hm v1 v2 q1 q2) (fun y5 h6 => ?_)
      refine P_op 39 (cut (4 * y5)) _ rfl (fun _ => rfl) o_mul ?_
      refine P_ld 41 (.int (i32 s.2)) rfl (fun _ => rfl) ?_
      refine P_op 42 (cut ((cut (4 * y5)) + s.2)) _ rfl (fun _ => rfl) o_add ?_
      refine P_lald2 43 143 (m.2 143) rfl rfl rfl cut_r rfl ?_
      refine P_opl 44 (and64 ((m.2 178) s.2) ((m.2 143) (cut ((cut (4 * y5)) + s.2)))) _ rfl (fun _ => rfl) (Int64.ofInt_toInt _).symm ?_
      refine P_gf 48 (.ref 296) rfl rfl rfl rfl rfl rfl ?_
      refine P_ld 49 (.int (i32 4)) rfl (fun _ => rfl) ?_
      refine P_ld 50 (.ref 189) rfl (fun _ => rfl) ?_
      refine P_ld 51 (.int (i32 v1)) rfl (fun _ => rfl) ?_
      refine P_ld 52 (.int (i32 v2)) rfl (fun _ => rfl) ?_
      refine P_cp1 55 319 [.ref 189, .int (i32 v1), .int (i32 v2)] [.int (i32 4), .ref 296, .long (i64 (and64 ((m.2 178) s.2) ((m.2 143) (cut ((cut (4 * y5)) + s.2)))))] rfl (fun _ => rfl) rfl (D_slot w m c N D hm v1 v2 q1 q2) (fun y7 h8 => ?_)
      refine P_op 56 (cut (4 * y7)) _ rfl (fun _ => rfl) o_mul ?_
      refine P_ld 58 (.int (i32 s.2)) rfl (fun _ => rfl) ?_
      refine P_op 59 (cut ((cut (4 * y7)) + s.2)) _ rfl (fun _ => rfl) o_add ?_
      refine P_lald2 60 142 (m.2 142) rfl rfl rfl cut_r rfl ?_
      refine P_op 61 (cmp64 (and64 ((m.2 178) s.2) ((m.2 143) (cut ((cut (4 * y5)) + s.2)))) ((m.2 142) (cut ((cut (4 * y7)) + s.2)))) _ rfl (fun _ => rfl) (o_cmp t64_r (rE_l (Cn_a hm 142) rfl _)) ?_
      refine P_ifE 68 64 rfl rfl rfl cmp64_r rfl (fun h9 => ?_) (fun h9 => ?_)
      · skip
        refine P_ld 65 (.int (i32 1)) rfl (fun _ => rfl) ?_
        refine P_goto 69 rfl (fun _ => rfl) ?_
        exact dg_matches_69 w c N D bb v1 v2 s.2 1 q1 q2 g4 (l32 1 rfl) m hm (jk [(3, s.1)]) Q2 H1 H2
      · skip
        exact dg_matches_68 w c N D bb v1 v2 s.2 q1 q2 g4 m hm (jk [(3, s.1)]) Q2 H1 H2
def rf_matches (v1 : Int) (v2 : Int) (m : mR) : Option Int :=
  bnd (whl (rfb_matches_5 v1 v2 m) (1, 0)) (fun e10 : Int =>
    some e10)
theorem D_matches (w : wX) (m : mR) (c : Nat → Option am_C) (N D : Nat) (hm : Cn m) (v1 : Int) (v2 : Int) (q1 : R32 v1) (q2 : R32 v2) : PC w D 337 [.ref 189, .int (i32 v1), .int (i32 v2)] (mhp m c, N) (QS (FP1 (mhp m c, N)) (rf_matches v1 v2 m)) := by
  refine Pc_of (fun D bb => ?_) D
  unfold rf_matches
  show PP bb w D pm_337 (0, [(0, .ref 189), (1, .int (i32 v1)), (2, .int (i32 v2))], [], (mhp (mO m [] []) c, N), 0, 0) _
  refine P_ld 1 (.int (i32 1)) rfl (fun _ => rfl) ?_
  refine P_sto 2 [(3, .int (i32 1)), (0, .ref 189), (1, .int (i32 v1)), (2, .int (i32 v2))] rfl (fun _ => rfl) ?_
  refine P_ld 3 (.int (i32 0)) rfl (fun _ => rfl) ?_
  refine P_sto 5 [(4, .int (i32 0)), (3, .int (i32 1)), (0, .ref 189), (1, .int (i32 v1)), (2, .int (i32 v2))] rfl (fun _ => rfl) ?_
  refine P_lv (b := [(0, .ref 189), (1, .int (i32 v1)), (2, .int (i32 v2)), (3, .int (i32 1)), (4, .int (i32 0))]) rfl rfl ⟨rfl, rfl, rfl, rfl, rfl, trivial⟩ ?_
  refine P_bnd ?_
  refine P_whl (fun bb Q2 H1 H2 s9 j9 hs9 => dh_matches_5 w c N D v1 v2 q1 q2 m hm bb Q2 H1 H2 s9 j9 hs9) bb (fun e10 j q11 => ?_) (1, 0) (jk []) ⟨(l32 1 rfl), (l32 0 rfl)⟩
  have q12 := q11
  show PP bb w D pm_337 (76, [(0, .ref 189), (1, .int (i32 (j 1))), (2, .int (i32 (j 2))), (3, .int (i32 e10)), (4, .int (i32 (j 4)))], [], (mhp (mO m [] []) c, N), 0, 0) (QS _ (some e10))
  refine P_ld 77 (.int (i32 e10)) rfl (fun _ => rfl) ?_
  exact P_rp1 rfl q12
def cs_ones_4 (s : Int × Int) : Prop := R32 s.1 ∧ R32 s.2
def cx_ones_4 : (Int) → Prop := (fun (e : Int) => R32 e)
def hd_ones_4 (c : Nat → Option am_C) (N : Nat) (v0 : Int) (m : mR) (s : Int × Int) (j : Nat → Int) : ag_St af_T := (4, [(0, .long (i64 v0)), (2, .int (i32 s.1)), (3, .int (i32 s.2))], [], (mhp m c, N), 0, 0)
def ex_ones_4 (c : Nat → Option am_C) (N : Nat) (v0 : Int) (m : mR) : (Int) → (Nat → Int) → ag_St af_T := (fun (e : Int) (j : Nat → Int) => ((25, [(0, .long (i64 (j 0))), (2, .int (i32 e)), (3, .int (i32 (j 3)))], [], (mhp m c, N), 0, 0) : ag_St af_T))
def rfb_ones_4 (v0 : Int) (m : mR) (s : Int × Int) : Option (Sum (Int × Int) (Int)) :=
  if (64 : Int) ≤ s.2 then
    some (.inr s.1)
  else
    some (.inl (cut (s.1 + (cut (and64 (ushr64 v0 s.2) 1))), cut (s.2 + 1)))
theorem dh_ones_4 (w : wX) (c : Nat → Option am_C) (N D : Nat) (v0 : Int) (q0 : R64 v0) (m : mR) (hm : Cn m) (bb : Nat) (Q2 : Sum (Int × Int) (Int) → ag_Re af_T → Prop) (H1 : ∀ s j, cs_ones_4 s → PP bb w D pm_339 (hd_ones_4 c N v0 m s j) (Q2 (.inl s))) (H2 : ∀ x j, cx_ones_4 x → PP bb w D pm_339 (ex_ones_4 c N v0 m x j) (Q2 (.inr x))) (s : Int × Int) (j : Nat → Int) (hs : cs_ones_4 s) : PP (bb + 1) w D pm_339 (hd_ones_4 c N v0 m s j) (QS Q2 (rfb_ones_4 v0 m s)) := by
  obtain ⟨g2, g3⟩ := hs
  unfold rfb_ones_4
  show PP (bb + 1) w D pm_339 (4, [(0, .long (i64 v0)), (2, .int (i32 s.1)), (3, .int (i32 s.2))], [], (mhp (mO m [] []) c, N), 0, 0) _
  refine P1_ld 5 (.int (i32 s.2)) rfl (fun _ => rfl) ?_
  refine P_ld 7 (.int (i32 64)) rfl (fun _ => rfl) ?_
  refine P_icF 25 10 rfl rfl rfl g3 (l32 64 rfl) rfl (fun h3 => ?_) (fun h3 => ?_)
  · skip
    refine P_some ?_
    exact H2 s.1 (jk [(0, v0), (3, s.2)]) g2
  · skip
    refine P_ld 11 (.int (i32 s.1)) rfl (fun _ => rfl) ?_
    refine P_ld 12 (.long (i64 v0)) rfl (fun _ => rfl) ?_
    refine P_ld 13 (.int (i32 s.2)) rfl (fun _ => rfl) ?_
    refine P_opl 14 (ushr64 v0 s.2) _ rfl (fun _ => rfl) (Int64.ofInt_toInt _).symm ?_
    refine P_ld 15 (.long (i64 1)) rfl (fun _ => rfl) ?_
    refine P_opl 16 (and64 (ushr64 v0 s.2) 1) _ rfl (fun _ => rfl) (Int64.ofInt_toInt _).symm ?_
    refine P_op 17 (cut (and64 (ushr64 v0 s.2) 1)) _ rfl (fun _ => rfl) o_l2i ?_
    refine P_op 18 (cut (s.1 + (cut (and64 (ushr64 v0 s.2) 1)))) _ rfl (fun _ => rfl) o_add ?_
    refine P_sto 19 [(2, .int (i32 (cut (s.1 + (cut (and64 (ushr64 v0 s.2) 1)))))), (0, .long (i64 v0)), (3, .int (i32 s.2))] rfl (fun _ => rfl) ?_
    refine P_inc 22 [(3, .int (i32 (cut (s.2 + 1)))), (2, .int (i32 (cut (s.1 + (cut (and64 (ushr64 v0 s.2) 1)))))), (0, .long (i64 v0))] rfl rfl (by decide) rfl rfl ?_
    refine P_goto 4 rfl (fun _ => rfl) ?_
    refine P_some ?_
    refine P_lv (b := [(0, .long (i64 v0)), (2, .int (i32 (cut (s.1 + (cut (and64 (ushr64 v0 s.2) 1)))))), (3, .int (i32 (cut (s.2 + 1))))]) rfl rfl ⟨rfl, rfl, rfl, trivial⟩ ?_
    exact H1 (cut (s.1 + (cut (and64 (ushr64 v0 s.2) 1))), cut (s.2 + 1)) (jk []) ⟨cut_r, cut_r⟩
def rf_ones (v0 : Int) (m : mR) : Option Int :=
  bnd (whl (rfb_ones_4 v0 m) (0, 0)) (fun e4 : Int =>
    some e4)
theorem D_ones (w : wX) (m : mR) (c : Nat → Option am_C) (N D : Nat) (hm : Cn m) (v0 : Int) (q0 : R64 v0) : PC w D 339 [.long (i64 v0)] (mhp m c, N) (QS (FP1 (mhp m c, N)) (rf_ones v0 m)) := by
  refine Pc_of (fun D bb => ?_) D
  unfold rf_ones
  show PP bb w D pm_339 (0, [(0, .long (i64 v0))], [], (mhp (mO m [] []) c, N), 0, 0) _
  refine P_ld 1 (.int (i32 0)) rfl (fun _ => rfl) ?_
  refine P_sto 2 [(2, .int (i32 0)), (0, .long (i64 v0))] rfl (fun _ => rfl) ?_
  refine P_ld 3 (.int (i32 0)) rfl (fun _ => rfl) ?_
  refine P_sto 4 [(3, .int (i32 0)), (2, .int (i32 0)), (0, .long (i64 v0))] rfl (fun _ => rfl) ?_
  refine P_lv (b := [(0, .long (i64 v0)), (2, .int (i32 0)), (3, .int (i32 0))]) rfl rfl ⟨rfl, rfl, rfl, trivial⟩ ?_
  refine P_bnd ?_
  refine P_whl (fun bb Q2 H1 H2 s9 j9 hs9 => dh_ones_4 w c N D v0 q0 m hm bb Q2 H1 H2 s9 j9 hs9) bb (fun e4 j q5 => ?_) (0, 0) (jk []) ⟨(l32 0 rfl), (l32 0 rfl)⟩
  have q6 := q5
  show PP bb w D pm_339 (25, [(0, .long (i64 (j 0))), (2, .int (i32 e4)), (3, .int (i32 (j 3)))], [], (mhp (mO m [] []) c, N), 0, 0) (QS _ (some e4))
  refine P_ld 26 (.int (i32 e4)) rfl (fun _ => rfl) ?_
  exact P_rp1 rfl q6
def cs_prefixOf_5 (s : Int × Int) : Prop := R32 s.1 ∧ R32 s.2
def cx_prefixOf_5 : (Int) → Prop := (fun (e : Int) => R32 e)
def hd_prefixOf_5 (c : Nat → Option am_C) (N : Nat) (v1 : Int) (v2 : Int) (m : mR) (s : Int × Int) (j : Nat → Int) : ag_St af_T := (5, [(0, .ref 189), (1, .int (i32 v1)), (2, .int (i32 v2)), (3, .int (i32 s.1)), (4, .int (i32 s.2))], [], (mhp m c, N), 0, 0)
def ex_prefixOf_5 (c : Nat → Option am_C) (N : Nat) (v1 : Int) (v2 : Int) (m : mR) : (Int) → (Nat → Int) → ag_St af_T := (fun (e : Int) (j : Nat → Int) => ((59, [(0, .ref 189), (1, .int (i32 (j 1))), (2, .int (i32 (j 2))), (3, .int (i32 e)), (4, .int (i32 (j 4)))], [], (mhp m c, N), 0, 0) : ag_St af_T))
def rfl_prefixOf_53 (v1 : Int) (v2 : Int) (v3 : Int) (v4 : Int) (m : mR) : Option (Sum (Int × Int) (Int)) :=
  some (.inl (v3, cut (v4 + 1)))
theorem dg_prefixOf_53 (w : wX) (c : Nat → Option am_C) (N D : Nat) (bb : Nat) (v1 : Int) (v2 : Int) (v3 : Int) (v4 : Int) (q1 : R32 v1) (q2 : R32 v2) (q3 : R32 v3) (q4 : R32 v4) (m : mR) (hm : Cn m) (j : Nat → Int) (Q2 : Sum (Int × Int) (Int) → ag_Re af_T → Prop) (H1 : ∀ s j, cs_prefixOf_5 s → PP bb w D pm_338 (hd_prefixOf_5 c N v1 v2 m s j) (Q2 (.inl s))) (H2 : ∀ x j, cx_prefixOf_5 x → PP bb w D pm_338 (ex_prefixOf_5 c N v1 v2 m x j) (Q2 (.inr x))) : PP bb w D pm_338 (53, [(0, .ref 189), (1, .int (i32 v1)), (2, .int (i32 v2)), (3, .int (i32 v3)), (4, .int (i32 v4))], [], (mhp m c, N), 0, 0) (QS Q2 (rfl_prefixOf_53 v1 v2 v3 v4 m)) := by
  unfold rfl_prefixOf_53
  show PP bb w D pm_338 (53, [(0, .ref 189), (1, .int (i32 v1)), (2, .int (i32 v2)), (3, .int (i32 v3)), (4, .int (i32 v4))], [], (mhp (mO m [] []) c, N), 0, 0) _
  refine P_inc 56 [(4, .int (i32 (cut (v4 + 1)))), (0, .ref 189), (1, .int (i32 v1)), (2, .int (i32 v2)), (3, .int (i32 v3))] rfl rfl (by decide) rfl rfl ?_
  refine P_goto 5 rfl (fun _ => rfl) ?_
  refine P_some ?_
  refine P_lv (b := [(0, .ref 189), (1, .int (i32 v1)), (2, .int (i32 v2)), (3, .int (i32 v3)), (4, .int (i32 (cut (v4 + 1))))]) rfl rfl ⟨rfl, rfl, rfl, rfl, rfl, trivial⟩ ?_
  exact H1 (v3, cut (v4 + 1)) (jk []) ⟨q3, cut_r⟩
def rfb_prefixOf_5 (v1 : Int) (v2 : Int) (m : mR) (s : Int × Int) : Option (Sum (Int × Int) (Int)) :=
  if (m.2 51) v1 ≤ s.2 then
    some (.inr s.1)
  else
    if (m.2 113) (cut ((cut (4 * v1)) + s.2)) = 313 then
      bnd (rf_slot v1 v2 m) fun y5 =>
      bnd (rf_ones ((m.2 143) (cut ((cut (4 * y5)) + s.2))) m) fun y7 =>
      rfl_prefixOf_53 v1 v2 y7 s.2 m
    else
      rfl_prefixOf_53 v1 v2 s.1 s.2 m
theorem dh_prefixOf_5 (w : wX) (c : Nat → Option am_C) (N D : Nat) (v1 : Int) (v2 : Int) (q1 : R32 v1) (q2 : R32 v2) (m : mR) (hm : Cn m) (bb : Nat) (Q2 : Sum (Int × Int) (Int) → ag_Re af_T → Prop) (H1 : ∀ s j, cs_prefixOf_5 s → PP bb w D pm_338 (hd_prefixOf_5 c N v1 v2 m s j) (Q2 (.inl s))) (H2 : ∀ x j, cx_prefixOf_5 x → PP bb w D pm_338 (ex_prefixOf_5 c N v1 v2 m x j) (Q2 (.inr x))) (s : Int × Int) (j : Nat → Int) (hs : cs_prefixOf_5 s) : PP (bb + 1) w D pm_338 (hd_prefixOf_5 c N v1 v2 m s j) (QS Q2 (rfb_prefixOf_5 v1 v2 m s)) := by
  obtain ⟨g3, g4⟩ := hs
  unfold rfb_prefixOf_5
  show PP (bb + 1) w D pm_338 (5, [(0, .ref 189), (1, .int (i32 v1)), (2, .int (i32 v2)), (3, .int (i32 s.1)), (4, .int (i32 s.2))], [], (mhp (mO m [] []) c, N), 0, 0) _
  refine P1_ld 7 (.int (i32 s.2)) rfl (fun _ => rfl) ?_
  refine P_gf 11 (.ref 221) rfl rfl rfl rfl rfl rfl ?_
  refine P_ld 12 (.int (i32 v1)) rfl (fun _ => rfl) ?_
  refine P_iald2 13 51 (m.2 51) rfl rfl rfl q1 rfl ?_
  refine P_icF 59 16 rfl rfl rfl g4 (rE_i (Cn_a hm 51) rfl _) rfl (fun h3 => ?_) (fun h3 => ?_)
  · skip
    refine P_some ?_
    exact H2 s.1 (jk [(1, v1), (2, v2), (4, s.2)]) g3
  · skip
    refine P_gf 20 (.ref 273) rfl rfl rfl rfl rfl rfl ?_
    refine P_ld 21 (.int (i32 4)) rfl (fun _ => rfl) ?_
    refine P_ld 22 (.int (i32 v1)) rfl (fun _ => rfl) ?_
    refine P_op 23 (cut (4 * v1)) _ rfl (fun _ => rfl) o_mul ?_
    refine P_ld 25 (.int (i32 s.2)) rfl (fun _ => rfl) ?_
    refine P_op 26 (cut ((cut (4 * v1)) + s.2)) _ rfl (fun _ => rfl) o_add ?_
    refine P_iald2 27 113 (m.2 113) rfl rfl rfl cut_r rfl ?_
    refine P_ld 30 (.int (i32 313)) rfl (fun _ => rfl) ?_
    refine P_icE 53 33 rfl rfl rfl (rE_i (Cn_a hm 113) rfl _) (l32 313 rfl) rfl (fun h4 => ?_) (fun h4 => ?_)
    · skip
      refine P_gf 37 (.ref 297) rfl rfl rfl rfl rfl rfl ?_
      refine P_ld 38 (.int (i32 4)) rfl (fun _ => rfl) ?_
      refine P_ld 39 (.ref 189) rfl (fun _ => rfl) ?_
      refine P_ld 40 (.int (i32 v1)) rfl (fun _ => rfl) ?_
      refine P_ld 41 (.int (i32 v2)) rfl (fun _ => rfl) ?_
      refine P_cp1 44 319 [.ref 189, .int (i32 v1), .int (i32 v2)] [.int (i32 4), .ref 297] rfl (fun _ => rfl) rfl (D_slot w m c N D hm v1 v2 q1 q2) (fun y5 h6 => ?_)
      refine P_op 45 (cut (4 * y5)) _ rfl (fun _ => rfl) o_mul ?_
      refine P_ld 47 (.int (i32 s.2)) rfl (fun _ => rfl) ?_
      refine P_op 48 (cut ((cut (4 * y5)) + s.2)) _ rfl (fun _ => rfl) o_add ?_
      refine P_lald2 49 143 (m.2 143) rfl rfl rfl cut_r rfl ?_
      refine P_cp1 52 339 [.long (i64 ((m.2 143) (cut ((cut (4 * y5)) + s.2))))] [] rfl (fun _ => rfl) rfl (D_ones w m c N D hm ((m.2 143) (cut ((cut (4 * y5)) + s.2))) (rE_l (Cn_a hm 143) rfl _)) (fun y7 h8 => ?_)
      refine P_sto 53 [(3, .int (i32 y7)), (0, .ref 189), (1, .int (i32 v1)), (2, .int (i32 v2)), (4, .int (i32 s.2))] rfl (fun _ => rfl) ?_
      refine P_lv (b := [(0, .ref 189), (1, .int (i32 v1)), (2, .int (i32 v2)), (3, .int (i32 y7)), (4, .int (i32 s.2))]) rfl rfl ⟨rfl, rfl, rfl, rfl, rfl, trivial⟩ ?_
      exact dg_prefixOf_53 w c N D bb v1 v2 y7 s.2 q1 q2 h8 g4 m hm (jk []) Q2 H1 H2
    · skip
      exact dg_prefixOf_53 w c N D bb v1 v2 s.1 s.2 q1 q2 g3 g4 m hm (jk []) Q2 H1 H2
def rf_prefixOf (v1 : Int) (v2 : Int) (m : mR) : Option Int :=
  bnd (whl (rfb_prefixOf_5 v1 v2 m) (0, 0)) (fun e9 : Int =>
    some e9)
theorem D_prefixOf (w : wX) (m : mR) (c : Nat → Option am_C) (N D : Nat) (hm : Cn m) (v1 : Int) (v2 : Int) (q1 : R32 v1) (q2 : R32 v2) : PC w D 338 [.ref 189, .int (i32 v1), .int (i32 v2)] (mhp m c, N) (QS (FP1 (mhp m c, N)) (rf_prefixOf v1 v2 m)) := by
  refine Pc_of (fun D bb => ?_) D
  unfold rf_prefixOf
  show PP bb w D pm_338 (0, [(0, .ref 189), (1, .int (i32 v1)), (2, .int (i32 v2))], [], (mhp (mO m [] []) c, N), 0, 0) _
  refine P_ld 1 (.int (i32 0)) rfl (fun _ => rfl) ?_
  refine P_sto 2 [(3, .int (i32 0)), (0, .ref 189), (1, .int (i32 v1)), (2, .int (i32 v2))] rfl (fun _ => rfl) ?_
  refine P_ld 3 (.int (i32 0)) rfl (fun _ => rfl) ?_
  refine P_sto 5 [(4, .int (i32 0)), (3, .int (i32 0)), (0, .ref 189), (1, .int (i32 v1)), (2, .int (i32 v2))] rfl (fun _ => rfl) ?_
  refine P_lv (b := [(0, .ref 189), (1, .int (i32 v1)), (2, .int (i32 v2)), (3, .int (i32 0)), (4, .int (i32 0))]) rfl rfl ⟨rfl, rfl, rfl, rfl, rfl, trivial⟩ ?_
  refine P_bnd ?_
  refine P_whl (fun bb Q2 H1 H2 s9 j9 hs9 => dh_prefixOf_5 w c N D v1 v2 q1 q2 m hm bb Q2 H1 H2 s9 j9 hs9) bb (fun e9 j q10 => ?_) (0, 0) (jk []) ⟨(l32 0 rfl), (l32 0 rfl)⟩
  have q11 := q10
  show PP bb w D pm_338 (59, [(0, .ref 189), (1, .int (i32 (j 1))), (2, .int (i32 (j 2))), (3, .int (i32 e9)), (4, .int (i32 (j 4)))], [], (mhp (mO m [] []) c, N), 0, 0) (QS _ (some e9))
  refine P_ld 60 (.int (i32 e9)) rfl (fun _ => rfl) ?_
  exact P_rp1 rfl q11
def cs_doTable_2 (s : Int × mR) : Prop := R32 s.1 ∧ Cn s.2
def cx_doTable_2 : (mR) → Prop := (fun (e : mR) => Cn e)
def hd_doTable_2 (c : Nat → Option am_C) (N : Nat) (v1 : Int) (s : Int × mR) (j : Nat → Int) : ag_St af_T := (2, [(0, .ref 189), (1, .int (i32 v1)), (2, .int (i32 s.1))], [], (mhp s.2 c, N), 0, 0)
def ex_doTable_2 (c : Nat → Option am_C) (N : Nat) (v1 : Int) : (mR) → (Nat → Int) → ag_St af_T := (fun (e : mR) (j : Nat → Int) => ((48, [(0, .ref 189), (1, .int (i32 v1)), (2, .int (i32 (j 2)))], [], (mhp e c, N), 0, 0) : ag_St af_T))
def cs_doTable_52 (s : Int × Int) : Prop := R32 s.1 ∧ R32 s.2
def cx_doTable_52 : (Int) → Prop := (fun (e : Int) => R32 e)
def hd_doTable_52 (c : Nat → Option am_C) (N : Nat) (v1 : Int) (m : mR) (s : Int × Int) (j : Nat → Int) : ag_St af_T := (52, [(0, .ref 189), (1, .int (i32 v1)), (2, .int (i32 s.1)), (3, .int (i32 s.2)), (4, .int (i32 (j 4)))], [], (mhp m c, N), 0, 0)
def ex_doTable_52 (c : Nat → Option am_C) (N : Nat) (v1 : Int) (m : mR) : (Int) → (Nat → Int) → ag_St af_T := (fun (e : Int) (j : Nat → Int) => ((157, [(0, .ref 189), (1, .int (i32 v1)), (2, .int (i32 e)), (3, .int (i32 (j 3))), (4, .int (i32 (j 4)))], [], (mhp m c, N), 0, 0) : ag_St af_T))
def cs_doTable_185 (s : Int × mR) : Prop := R32 s.1 ∧ Cn s.2
def cx_doTable_185 : (mR) → Prop := (fun (e : mR) => Cn e)
def hd_doTable_185 (c : Nat → Option am_C) (N : Nat) (v1 : Int) (v2 : Int) (v3 : Int) (s : Int × mR) (j : Nat → Int) : ag_St af_T := (185, [(0, .ref 189), (1, .int (i32 v1)), (2, .int (i32 v2)), (3, .int (i32 v3)), (4, .int (i32 s.1))], [], (mhp s.2 c, N), 0, 0)
def ex_doTable_185 (c : Nat → Option am_C) (N : Nat) (v1 : Int) (v2 : Int) (v3 : Int) : (mR) → (Nat → Int) → ag_St af_T := (fun (e : mR) (j : Nat → Int) => ((238, [(0, .ref 189), (1, .int (i32 (j 1))), (2, .int (i32 (j 2))), (3, .int (i32 v3)), (4, .int (i32 (j 4)))], [], (mhp e c, N), 0, 0) : ag_St af_T))
def cs_doTable_246 (s : Int × mR) : Prop := R32 s.1 ∧ Cn s.2
def cx_doTable_246 : (mR) → Prop := (fun (e : mR) => Cn e)
def hd_doTable_246 (c : Nat → Option am_C) (N : Nat) (v3 : Int) (s : Int × mR) (j : Nat → Int) : ag_St af_T := (246, [(0, .ref 189), (1, .int (i32 (j 1))), (2, .int (i32 (j 2))), (3, .int (i32 v3)), (4, .int (i32 s.1))], [], (mhp s.2 c, N), 0, 0)
def ex_doTable_246 (c : Nat → Option am_C) (N : Nat) (v3 : Int) : (mR) → (Nat → Int) → ag_St af_T := (fun (e : mR) (j : Nat → Int) => ((276, [(0, .ref 189), (1, .int (i32 (j 1))), (2, .int (i32 (j 2))), (3, .int (i32 v3)), (4, .int (i32 (j 4)))], [], (mhp e c, N), 0, 0) : ag_St af_T))
def rfl_doTable_270 (v3 : Int) (v4 : Int) (m : mR) : Option (Sum (Int × mR) (mR)) :=
  some (.inl (cut (v4 + 1), m))
theorem dg_doTable_270 (w : wX) (c : Nat → Option am_C) (N D : Nat) (bb : Nat) (v3 : Int) (v4 : Int) (q3 : R32 v3) (q4 : R32 v4) (m : mR) (hm : Cn m) (j : Nat → Int) (Q2 : Sum (Int × mR) (mR) → ag_Re af_T → Prop) (H1 : ∀ s j, cs_doTable_246 s → PP bb w D pm_336 (hd_doTable_246 c N v3 s j) (Q2 (.inl s))) (H2 : ∀ x j, cx_doTable_246 x → PP bb w D pm_336 (ex_doTable_246 c N v3 x j) (Q2 (.inr x))) : PP bb w D pm_336 (270, [(0, .ref 189), (1, .int (i32 (j 1))), (2, .int (i32 (j 2))), (3, .int (i32 v3)), (4, .int (i32 v4))], [], (mhp m c, N), 0, 0) (QS Q2 (rfl_doTable_270 v3 v4 m)) := by
  unfold rfl_doTable_270
  show PP bb w D pm_336 (270, [(0, .ref 189), (1, .int (i32 (j 1))), (2, .int (i32 (j 2))), (3, .int (i32 v3)), (4, .int (i32 v4))], [], (mhp (mO m [] []) c, N), 0, 0) _
  refine P_inc 273 [(4, .int (i32 (cut (v4 + 1)))), (0, .ref 189), (1, .int (i32 (j 1))), (2, .int (i32 (j 2))), (3, .int (i32 v3))] rfl rfl (by decide) rfl rfl ?_
  refine P_goto 246 rfl (fun _ => rfl) ?_
  refine P_some ?_
  refine P_lv (b := [(0, .ref 189), (1, .int (i32 (j 1))), (2, .int (i32 (j 2))), (3, .int (i32 v3)), (4, .int (i32 (cut (v4 + 1))))]) rfl rfl ⟨rfl, rfl, rfl, rfl, rfl, trivial⟩ ?_
  exact H1 (cut (v4 + 1), m) (jk [(1, j 1), (2, j 2)]) ⟨cut_r, hm⟩
def rfb_doTable_246 (v3 : Int) (s : Int × mR) : Option (Sum (Int × mR) (mR)) :=
  if cut (((s.2.2 109) v3) + ((s.2.2 50) v3)) ≤ s.1 then
    some (.inr s.2)
  else
    bnd (rf_doStatement s.1 s.2) fun y7 =>
    rfl_doTable_270 v3 s.1 y7.2
theorem dh_doTable_246 (w : wX) (c : Nat → Option am_C) (N D : Nat) (v3 : Int) (q3 : R32 v3) (bb : Nat) (Q2 : Sum (Int × mR) (mR) → ag_Re af_T → Prop) (H1 : ∀ s j, cs_doTable_246 s → PP bb w D pm_336 (hd_doTable_246 c N v3 s j) (Q2 (.inl s))) (H2 : ∀ x j, cx_doTable_246 x → PP bb w D pm_336 (ex_doTable_246 c N v3 x j) (Q2 (.inr x))) (s : Int × mR) (j : Nat → Int) (hs : cs_doTable_246 s) : PP (bb + 1) w D pm_336 (hd_doTable_246 c N v3 s j) (QS Q2 (rfb_doTable_246 v3 s)) := by
  obtain ⟨g4, gm⟩ := hs
  unfold rfb_doTable_246
  show PP (bb + 1) w D pm_336 (246, [(0, .ref 189), (1, .int (i32 (j 1))), (2, .int (i32 (j 2))), (3, .int (i32 v3)), (4, .int (i32 s.1))], [], (mhp (mO s.2 [] []) c, N), 0, 0) _
  refine P1_ld 248 (.int (i32 s.1)) rfl (fun _ => rfl) ?_
  refine P_gf 252 (.ref 269) rfl rfl rfl rfl rfl rfl ?_
  refine P_ld 253 (.int (i32 v3)) rfl (fun _ => rfl) ?_
  refine P_iald2 254 109 (s.2.2 109) rfl rfl rfl q3 rfl ?_
  refine P_gf 258 (.ref 220) rfl rfl rfl rfl rfl rfl ?_
  refine P_ld 259 (.int (i32 v3)) rfl (fun _ => rfl) ?_
  refine P_iald2 260 50 (s.2.2 50) rfl rfl rfl q3 rfl ?_
  refine P_op 261 (cut (((s.2.2 109) v3) + ((s.2.2 50) v3))) _ rfl (fun _ => rfl) o_add ?_
  refine P_icF 276 264 rfl rfl rfl g4 cut_r rfl (fun h6 => ?_) (fun h6 => ?_)
  · skip
    refine P_some ?_
    exact H2 s.2 (jk [(1, j 1), (2, j 2), (4, s.1)]) gm
  · skip
    refine P_ld 265 (.ref 189) rfl (fun _ => rfl) ?_
    refine P_ld 267 (.int (i32 s.1)) rfl (fun _ => rfl) ?_
    refine P_ca0 270 332 [.ref 189, .int (i32 s.1)] [] rfl (fun _ => rfl) rfl (D_doStatement w s.2 c N D gm s.1 g4) (fun y7 n9 => ?_)
    exact dg_doTable_270 w c N D bb v3 s.1 q3 g4 y7.2 n9 (jk [(1, j 1), (2, j 2)]) Q2 H1 H2
def rfl_doTable_238 (v3 : Int) (m : mR) : Option (Int × mR) :=
  bnd (whl (rfb_doTable_246 v3) ((m.2 109) v3, m)) (fun e10 : mR =>
    some (v3, e10))
theorem dg_doTable_238 (w : wX) (c : Nat → Option am_C) (N D : Nat) (bb : Nat) (v3 : Int) (q3 : R32 v3) (m : mR) (hm : Cn m) (j : Nat → Int) : PP bb w D pm_336 (238, [(0, .ref 189), (1, .int (i32 (j 1))), (2, .int (i32 (j 2))), (3, .int (i32 v3)), (4, .int (i32 (j 4)))], [], (mhp m c, N), 0, 0) (QS (FR1 c N) (rfl_doTable_238 v3 m)) := by
  unfold rfl_doTable_238
  show PP bb w D pm_336 (238, [(0, .ref 189), (1, .int (i32 (j 1))), (2, .int (i32 (j 2))), (3, .int (i32 v3)), (4, .int (i32 (j 4)))], [], (mhp (mO m [] []) c, N), 0, 0) _
  refine P_gf 242 (.ref 269) rfl rfl rfl rfl rfl rfl ?_
  refine P_ld 243 (.int (i32 v3)) rfl (fun _ => rfl) ?_
  refine P_iald2 244 109 (m.2 109) rfl rfl rfl q3 rfl ?_
  refine P_sto 246 [(4, .int (i32 ((m.2 109) v3))), (0, .ref 189), (1, .int (i32 (j 1))), (2, .int (i32 (j 2))), (3, .int (i32 v3))] rfl (fun _ => rfl) ?_
  refine P_lv (b := [(0, .ref 189), (1, .int (i32 (j 1))), (2, .int (i32 (j 2))), (3, .int (i32 v3)), (4, .int (i32 ((m.2 109) v3)))]) rfl rfl ⟨rfl, rfl, rfl, rfl, rfl, trivial⟩ ?_
  refine P_bnd ?_
  refine P_whl (fun bb Q2 H1 H2 s9 j9 hs9 => dh_doTable_246 w c N D v3 q3 bb Q2 H1 H2 s9 j9 hs9) bb (fun e10 j q11 => ?_) ((m.2 109) v3, m) (jk [(1, j 1), (2, j 2)]) ⟨(rE_i (Cn_a hm 109) rfl _), hm⟩
  have q12 := q11
  show PP bb w D pm_336 (276, [(0, .ref 189), (1, .int (i32 (j 1))), (2, .int (i32 (j 2))), (3, .int (i32 v3)), (4, .int (i32 (j 4)))], [], (mhp (mO e10 [] []) c, N), 0, 0) (QS _ (some (v3, e10)))
  refine P_ld 277 (.int (i32 v3)) rfl (fun _ => rfl) ?_
  exact P_re1 rfl q3 q12
def rfl_doTable_231 (v1 : Int) (v2 : Int) (v3 : Int) (v4 : Int) (u1 : Int) (u2 : Int) (m : mR) : Option (Sum (Int × mR) (mR)) :=
  some (.inl (cut (v4 + 1), (mO m [] [(174, upI (m.2 174) u1 u2)])))
theorem dg_doTable_231 (w : wX) (c : Nat → Option am_C) (N D : Nat) (bb : Nat) (v1 : Int) (v2 : Int) (v3 : Int) (v4 : Int) (u1 : Int) (u2 : Int) (q1 : R32 v1) (q2 : R32 v2) (q3 : R32 v3) (q4 : R32 v4) (r1 : R32 u1) (r2 : R64 u2) (m : mR) (hm : Cn m) (j : Nat → Int) (Q2 : Sum (Int × mR) (mR) → ag_Re af_T → Prop) (H1 : ∀ s j, cs_doTable_185 s → PP bb w D pm_336 (hd_doTable_185 c N v1 v2 v3 s j) (Q2 (.inl s))) (H2 : ∀ x j, cx_doTable_185 x → PP bb w D pm_336 (ex_doTable_185 c N v1 v2 v3 x j) (Q2 (.inr x))) : PP bb w D pm_336 (231, [(0, .ref 189), (1, .int (i32 v1)), (2, .int (i32 v2)), (3, .int (i32 v3)), (4, .int (i32 v4))], [.long (i64 u2), .int (i32 u1), .ref 323], (mhp m c, N), 0, 0) (QS Q2 (rfl_doTable_231 v1 v2 v3 v4 u1 u2 m)) := by
  unfold rfl_doTable_231
  show PP bb w D pm_336 (231, [(0, .ref 189), (1, .int (i32 v1)), (2, .int (i32 v2)), (3, .int (i32 v3)), (4, .int (i32 v4))], [.long (i64 u2), .int (i32 u1), .ref 323], (mhp (mO m [] []) c, N), 0, 0) _
  refine P_last2 (a' := [(174, upI (m.2 174) u1 u2)]) 232 174 (m.2 174) rfl rfl rfl r1 rfl rfl ?_
  refine P_inc 235 [(4, .int (i32 (cut (v4 + 1)))), (0, .ref 189), (1, .int (i32 v1)), (2, .int (i32 v2)), (3, .int (i32 v3))] rfl rfl (by decide) rfl rfl ?_
  refine P_goto 185 rfl (fun _ => rfl) ?_
  refine P_some ?_
  refine P_lv (b := [(0, .ref 189), (1, .int (i32 v1)), (2, .int (i32 v2)), (3, .int (i32 v3)), (4, .int (i32 (cut (v4 + 1))))]) rfl rfl ⟨rfl, rfl, rfl, rfl, rfl, trivial⟩ ?_
  exact H1 (cut (v4 + 1), (mO m [] [(174, upI (m.2 174) u1 u2)])) (jk []) ⟨cut_r, (Cn_mO hm trivial ⟨(rE_ul (Cn_a hm 174) rfl r2), trivial⟩)⟩
def rfb_doTable_185 (v1 : Int) (v2 : Int) (v3 : Int) (s : Int × mR) : Option (Sum (Int × mR) (mR)) :=
  if (4 : Int) ≤ s.1 then
    some (.inr s.2)
  else
    if (0 : Int) ≤ v2 then
      bnd (rf_slot v1 v2 s.2) fun y16 =>
      rfl_doTable_231 v1 v2 v3 s.1 s.1 ((s.2.2 144) (cut ((cut (4 * y16)) + s.1))) s.2
    else
      rfl_doTable_231 v1 v2 v3 s.1 s.1 ((s.2.2 115) (cut ((cut (4 * v1)) + s.1))) s.2
theorem dh_doTable_185 (w : wX) (c : Nat → Option am_C) (N D : Nat) (v1 : Int) (v2 : Int) (v3 : Int) (q1 : R32 v1) (q2 : R32 v2) (q3 : R32 v3) (bb : Nat) (Q2 : Sum (Int × mR) (mR) → ag_Re af_T → Prop) (H1 : ∀ s j, cs_doTable_185 s → PP bb w D pm_336 (hd_doTable_185 c N v1 v2 v3 s j) (Q2 (.inl s))) (H2 : ∀ x j, cx_doTable_185 x → PP bb w D pm_336 (ex_doTable_185 c N v1 v2 v3 x j) (Q2 (.inr x))) (s : Int × mR) (j : Nat → Int) (hs : cs_doTable_185 s) : PP (bb + 1) w D pm_336 (hd_doTable_185 c N v1 v2 v3 s j) (QS Q2 (rfb_doTable_185 v1 v2 v3 s)) := by
  obtain ⟨g4, gm⟩ := hs
  unfold rfb_doTable_185
  show PP (bb + 1) w D pm_336 (185, [(0, .ref 189), (1, .int (i32 v1)), (2, .int (i32 v2)), (3, .int (i32 v3)), (4, .int (i32 s.1))], [], (mhp (mO s.2 [] []) c, N), 0, 0) _
  refine P1_ld 187 (.int (i32 s.1)) rfl (fun _ => rfl) ?_
  refine P_ld 188 (.int (i32 4)) rfl (fun _ => rfl) ?_
  refine P_icF 238 191 rfl rfl rfl g4 (l32 4 rfl) rfl (fun h14 => ?_) (fun h14 => ?_)
  · skip
    refine P_some ?_
    exact H2 s.2 (jk [(1, v1), (2, v2), (4, s.1)]) gm
  · skip
    refine P_gf 195 (.ref 323) rfl rfl rfl rfl rfl rfl ?_
    refine P_ld 197 (.int (i32 s.1)) rfl (fun _ => rfl) ?_
    refine P_ld 198 (.int (i32 v2)) rfl (fun _ => rfl) ?_
    refine P_ifF 215 201 rfl rfl rfl q2 rfl (fun h15 => ?_) (fun h15 => ?_)
    · skip
      refine P_gf 219 (.ref 298) rfl rfl rfl rfl rfl rfl ?_
      refine P_ld 220 (.int (i32 4)) rfl (fun _ => rfl) ?_
      refine P_ld 221 (.ref 189) rfl (fun _ => rfl) ?_
      refine P_ld 222 (.int (i32 v1)) rfl (fun _ => rfl) ?_
      refine P_ld 223 (.int (i32 v2)) rfl (fun _ => rfl) ?_
      refine P_cp1 226 319 [.ref 189, .int (i32 v1), .int (i32 v2)] [.int (i32 4), .ref 298, .int (i32 s.1), .ref 323] rfl (fun _ => rfl) rfl (D_slot w s.2 c N D gm v1 v2 q1 q2) (fun y16 h17 => ?_)
      refine P_op 227 (cut (4 * y16)) _ rfl (fun _ => rfl) o_mul ?_
      refine P_ld 229 (.int (i32 s.1)) rfl (fun _ => rfl) ?_
      refine P_op 230 (cut ((cut (4 * y16)) + s.1)) _ rfl (fun _ => rfl) o_add ?_
      refine P_lald2 231 144 (s.2.2 144) rfl rfl rfl cut_r rfl ?_
      exact dg_doTable_231 w c N D bb v1 v2 v3 s.1 s.1 ((s.2.2 144) (cut ((cut (4 * y16)) + s.1))) q1 q2 q3 g4 g4 (rE_l (Cn_a gm 144) rfl _) s.2 gm (jk []) Q2 H1 H2
    · skip
      refine P_gf 205 (.ref 275) rfl rfl rfl rfl rfl rfl ?_
      refine P_ld 206 (.int (i32 4)) rfl (fun _ => rfl) ?_
      refine P_ld 207 (.int (i32 v1)) rfl (fun _ => rfl) ?_
      refine P_op 208 (cut (4 * v1)) _ rfl (fun _ => rfl) o_mul ?_
      refine P_ld 210 (.int (i32 s.1)) rfl (fun _ => rfl) ?_
      refine P_op 211 (cut ((cut (4 * v1)) + s.1)) _ rfl (fun _ => rfl) o_add ?_
      refine P_lald2 212 115 (s.2.2 115) rfl rfl rfl cut_r rfl ?_
      refine P_goto 231 rfl (fun _ => rfl) ?_
      exact dg_doTable_231 w c N D bb v1 v2 v3 s.1 s.1 ((s.2.2 115) (cut ((cut (4 * v1)) + s.1))) q1 q2 q3 g4 g4 (rE_l (Cn_a gm 115) rfl _) s.2 gm (jk []) Q2 H1 H2
def rfl_doTable_181 (v1 : Int) (v2 : Int) (u0 : Int) (m : mR) : Option (Int × mR) :=
  bnd (whl (rfb_doTable_185 v1 v2 u0) (0, m)) (fun e18 : mR =>
    rfl_doTable_238 u0 e18)
theorem dg_doTable_181 (w : wX) (c : Nat → Option am_C) (N D : Nat) (bb : Nat) (v1 : Int) (v2 : Int) (u0 : Int) (q1 : R32 v1) (q2 : R32 v2) (r0 : R32 u0) (m : mR) (hm : Cn m) (j : Nat → Int) : PP bb w D pm_336 (181, [(0, .ref 189), (1, .int (i32 v1)), (2, .int (i32 v2)), (3, .int (i32 (j 3))), (4, .int (i32 (j 4)))], [.int (i32 u0)], (mhp m c, N), 0, 0) (QS (FR1 c N) (rfl_doTable_181 v1 v2 u0 m)) := by
  unfold rfl_doTable_181
  show PP bb w D pm_336 (181, [(0, .ref 189), (1, .int (i32 v1)), (2, .int (i32 v2)), (3, .int (i32 (j 3))), (4, .int (i32 (j 4)))], [.int (i32 u0)], (mhp (mO m [] []) c, N), 0, 0) _
  refine P_sto 182 [(3, .int (i32 u0)), (0, .ref 189), (1, .int (i32 v1)), (2, .int (i32 v2)), (4, .int (i32 (j 4)))] rfl (fun _ => rfl) ?_
  refine P_ld 183 (.int (i32 0)) rfl (fun _ => rfl) ?_
  refine P_sto 185 [(4, .int (i32 0)), (3, .int (i32 u0)), (0, .ref 189), (1, .int (i32 v1)), (2, .int (i32 v2))] rfl (fun _ => rfl) ?_
  refine P_lv (b := [(0, .ref 189), (1, .int (i32 v1)), (2, .int (i32 v2)), (3, .int (i32 u0)), (4, .int (i32 0))]) rfl rfl ⟨rfl, rfl, rfl, rfl, rfl, trivial⟩ ?_
  refine P_bnd ?_
  refine P_whl (fun bb Q2 H1 H2 s9 j9 hs9 => dh_doTable_185 w c N D v1 v2 u0 q1 q2 r0 bb Q2 H1 H2 s9 j9 hs9) bb (fun e18 j q19 => ?_) (0, m) (jk []) ⟨(l32 0 rfl), hm⟩
  have q20 := q19
  show PP bb w D pm_336 (238, [(0, .ref 189), (1, .int (i32 (j 1))), (2, .int (i32 (j 2))), (3, .int (i32 u0)), (4, .int (i32 (j 4)))], [], (mhp (mO e18 [] []) c, N), 0, 0) (QS _ (rfl_doTable_238 u0 e18))
  exact dg_doTable_238 w c N D bb u0 r0 e18 q20 (jk [(1, j 1), (2, j 2), (4, j 4)])
def rfl_doTable_157 (v1 : Int) (v2 : Int) (m : mR) : Option (Int × mR) :=
  if (0 : Int) ≤ v2 then
    bnd (rf_slot v1 v2 m) fun y22 =>
    rfl_doTable_181 v1 v2 ((m.2 141) y22) m
  else
    rfl_doTable_181 v1 v2 ((m.2 57) v1) m
theorem dg_doTable_157 (w : wX) (c : Nat → Option am_C) (N D : Nat) (bb : Nat) (v1 : Int) (v2 : Int) (q1 : R32 v1) (q2 : R32 v2) (m : mR) (hm : Cn m) (j : Nat → Int) : PP bb w D pm_336 (157, [(0, .ref 189), (1, .int (i32 v1)), (2, .int (i32 v2)), (3, .int (i32 (j 3))), (4, .int (i32 (j 4)))], [], (mhp m c, N), 0, 0) (QS (FR1 c N) (rfl_doTable_157 v1 v2 m)) := by
  unfold rfl_doTable_157
  show PP bb w D pm_336 (157, [(0, .ref 189), (1, .int (i32 v1)), (2, .int (i32 v2)), (3, .int (i32 (j 3))), (4, .int (i32 (j 4)))], [], (mhp (mO m [] []) c, N), 0, 0) _
  refine P_ld 158 (.int (i32 v2)) rfl (fun _ => rfl) ?_
  refine P_ifF 170 161 rfl rfl rfl q2 rfl (fun h21 => ?_) (fun h21 => ?_)
  · skip
    refine P_gf 174 (.ref 295) rfl rfl rfl rfl rfl rfl ?_
    refine P_ld 175 (.ref 189) rfl (fun _ => rfl) ?_
    refine P_ld 176 (.int (i32 v1)) rfl (fun _ => rfl) ?_
    refine P_ld 177 (.int (i32 v2)) rfl (fun _ => rfl) ?_
    refine P_cp1 180 319 [.ref 189, .int (i32 v1), .int (i32 v2)] [.ref 295] rfl (fun _ => rfl) rfl (D_slot w m c N D hm v1 v2 q1 q2) (fun y22 h23 => ?_)
    refine P_iald2 181 141 (m.2 141) rfl rfl rfl h23 rfl ?_
    exact dg_doTable_181 w c N D bb v1 v2 ((m.2 141) y22) q1 q2 (rE_i (Cn_a hm 141) rfl _) m hm (jk [(3, j 3), (4, j 4)])
  · skip
    refine P_gf 165 (.ref 227) rfl rfl rfl rfl rfl rfl ?_
    refine P_ld 166 (.int (i32 v1)) rfl (fun _ => rfl) ?_
    refine P_iald2 167 57 (m.2 57) rfl rfl rfl q1 rfl ?_
    refine P_goto 181 rfl (fun _ => rfl) ?_
    exact dg_doTable_181 w c N D bb v1 v2 ((m.2 57) v1) q1 q2 (rE_i (Cn_a hm 57) rfl _) m hm (jk [(3, j 3), (4, j 4)])
def rfl_doTable_151 (v1 : Int) (v2 : Int) (v3 : Int) (m : mR) : Option (Sum (Int × Int) (Int)) :=
  some (.inl (v2, cut (v3 + 1)))
theorem dg_doTable_151 (w : wX) (c : Nat → Option am_C) (N D : Nat) (bb : Nat) (v1 : Int) (v2 : Int) (v3 : Int) (q1 : R32 v1) (q2 : R32 v2) (q3 : R32 v3) (m : mR) (hm : Cn m) (j : Nat → Int) (Q2 : Sum (Int × Int) (Int) → ag_Re af_T → Prop) (H1 : ∀ s j, cs_doTable_52 s → PP bb w D pm_336 (hd_doTable_52 c N v1 m s j) (Q2 (.inl s))) (H2 : ∀ x j, cx_doTable_52 x → PP bb w D pm_336 (ex_doTable_52 c N v1 m x j) (Q2 (.inr x))) : PP bb w D pm_336 (151, [(0, .ref 189), (1, .int (i32 v1)), (2, .int (i32 v2)), (3, .int (i32 v3)), (4, .int (i32 (j 4)))], [], (mhp m c, N), 0, 0) (QS Q2 (rfl_doTable_151 v1 v2 v3 m)) := by
  unfold rfl_doTable_151
  show PP bb w D pm_336 (151, [(0, .ref 189), (1, .int (i32 v1)), (2, .int (i32 v2)), (3, .int (i32 v3)), (4, .int (i32 (j 4)))], [], (mhp (mO m [] []) c, N), 0, 0) _
  refine P_inc 154 [(3, .int (i32 (cut (v3 + 1)))), (0, .ref 189), (1, .int (i32 v1)), (2, .int (i32 v2)), (4, .int (i32 (j 4)))] rfl rfl (by decide) rfl rfl ?_
  refine P_goto 52 rfl (fun _ => rfl) ?_
  refine P_some ?_
  refine P_lv (b := [(0, .ref 189), (1, .int (i32 v1)), (2, .int (i32 v2)), (3, .int (i32 (cut (v3 + 1)))), (4, .int (i32 (j 4)))]) rfl rfl ⟨rfl, rfl, rfl, rfl, rfl, trivial⟩ ?_
  exact H1 (v2, cut (v3 + 1)) (jk [(4, j 4)]) ⟨q2, cut_r⟩
def rfl_doTable_150 (v1 : Int) (v3 : Int) (u0 : Int) (m : mR) : Option (Sum (Int × Int) (Int)) :=
  rfl_doTable_151 v1 u0 v3 m
theorem dg_doTable_150 (w : wX) (c : Nat → Option am_C) (N D : Nat) (bb : Nat) (v1 : Int) (v3 : Int) (u0 : Int) (q1 : R32 v1) (q3 : R32 v3) (r0 : R32 u0) (m : mR) (hm : Cn m) (j : Nat → Int) (Q2 : Sum (Int × Int) (Int) → ag_Re af_T → Prop) (H1 : ∀ s j, cs_doTable_52 s → PP bb w D pm_336 (hd_doTable_52 c N v1 m s j) (Q2 (.inl s))) (H2 : ∀ x j, cx_doTable_52 x → PP bb w D pm_336 (ex_doTable_52 c N v1 m x j) (Q2 (.inr x))) : PP bb w D pm_336 (150, [(0, .ref 189), (1, .int (i32 v1)), (2, .int (i32 (j 2))), (3, .int (i32 v3)), (4, .int (i32 (j 4)))], [.int (i32 u0)], (mhp m c, N), 0, 0) (QS Q2 (rfl_doTable_150 v1 v3 u0 m)) := by
  unfold rfl_doTable_150
  show PP bb w D pm_336 (150, [(0, .ref 189), (1, .int (i32 v1)), (2, .int (i32 (j 2))), (3, .int (i32 v3)), (4, .int (i32 (j 4)))], [.int (i32 u0)], (mhp (mO m [] []) c, N), 0, 0) _
  refine P_sto 151 [(2, .int (i32 u0)), (0, .ref 189), (1, .int (i32 v1)), (3, .int (i32 v3)), (4, .int (i32 (j 4)))] rfl (fun _ => rfl) ?_
  refine P_lv (b := [(0, .ref 189), (1, .int (i32 v1)), (2, .int (i32 u0)), (3, .int (i32 v3)), (4, .int (i32 (j 4)))]) rfl rfl ⟨rfl, rfl, rfl, rfl, rfl, trivial⟩ ?_
  exact dg_doTable_151 w c N D bb v1 u0 v3 q1 r0 q3 m hm (jk [(4, j 4)]) Q2 H1 H2
def rfl_doTable_138 (v1 : Int) (v2 : Int) (v3 : Int) (u0 : Int) (m : mR) : Option (Sum (Int × Int) (Int)) :=
  if u0 = 0 then
    rfl_doTable_150 v1 v3 v2 m
  else
    rfl_doTable_150 v1 v3 v3 m
theorem dg_doTable_138 (w : wX) (c : Nat → Option am_C) (N D : Nat) (bb : Nat) (v1 : Int) (v2 : Int) (v3 : Int) (u0 : Int) (q1 : R32 v1) (q2 : R32 v2) (q3 : R32 v3) (r0 : R32 u0) (m : mR) (hm : Cn m) (j : Nat → Int) (Q2 : Sum (Int × Int) (Int) → ag_Re af_T → Prop) (H1 : ∀ s j, cs_doTable_52 s → PP bb w D pm_336 (hd_doTable_52 c N v1 m s j) (Q2 (.inl s))) (H2 : ∀ x j, cx_doTable_52 x → PP bb w D pm_336 (ex_doTable_52 c N v1 m x j) (Q2 (.inr x))) : PP bb w D pm_336 (138, [(0, .ref 189), (1, .int (i32 v1)), (2, .int (i32 v2)), (3, .int (i32 v3)), (4, .int (i32 (j 4)))], [.int (i32 u0)], (mhp m c, N), 0, 0) (QS Q2 (rfl_doTable_138 v1 v2 v3 u0 m)) := by
  unfold rfl_doTable_138
  show PP bb w D pm_336 (138, [(0, .ref 189), (1, .int (i32 v1)), (2, .int (i32 v2)), (3, .int (i32 v3)), (4, .int (i32 (j 4)))], [.int (i32 u0)], (mhp (mO m [] []) c, N), 0, 0) _
  refine P_sto 140 [(4, .int (i32 u0)), (0, .ref 189), (1, .int (i32 v1)), (2, .int (i32 v2)), (3, .int (i32 v3))] rfl (fun _ => rfl) ?_
  refine P_ld 142 (.int (i32 u0)) rfl (fun _ => rfl) ?_
  refine P_ifF 149 145 rfl rfl rfl r0 rfl (fun h24 => ?_) (fun h24 => ?_)
  · skip
    refine P_ld 150 (.int (i32 v2)) rfl (fun _ => rfl) ?_
    refine P_lv (b := [(0, .ref 189), (1, .int (i32 v1)), (2, .int (i32 v2)), (3, .int (i32 v3)), (4, .int (i32 u0))]) rfl rfl ⟨rfl, rfl, rfl, rfl, rfl, trivial⟩ ?_
    exact dg_doTable_150 w c N D bb v1 v3 v2 q1 q3 q2 m hm (jk [(2, v2), (4, u0)]) Q2 H1 H2
  · skip
    refine P_ld 146 (.int (i32 v3)) rfl (fun _ => rfl) ?_
    refine P_goto 150 rfl (fun _ => rfl) ?_
    refine P_lv (b := [(0, .ref 189), (1, .int (i32 v1)), (2, .int (i32 v2)), (3, .int (i32 v3)), (4, .int (i32 u0))]) rfl rfl ⟨rfl, rfl, rfl, rfl, rfl, trivial⟩ ?_
    exact dg_doTable_150 w c N D bb v1 v3 v3 q1 q3 q3 m hm (jk [(2, v2), (4, u0)]) Q2 H1 H2
def rfl_doTable_137 (v1 : Int) (v2 : Int) (v3 : Int) (m : mR) : Option (Sum (Int × Int) (Int)) :=
  rfl_doTable_138 v1 v2 v3 0 m
theorem dg_doTable_137 (w : wX) (c : Nat → Option am_C) (N D : Nat) (bb : Nat) (v1 : Int) (v2 : Int) (v3 : Int) (q1 : R32 v1) (q2 : R32 v2) (q3 : R32 v3) (m : mR) (hm : Cn m) (j : Nat → Int) (Q2 : Sum (Int × Int) (Int) → ag_Re af_T → Prop) (H1 : ∀ s j, cs_doTable_52 s → PP bb w D pm_336 (hd_doTable_52 c N v1 m s j) (Q2 (.inl s))) (H2 : ∀ x j, cx_doTable_52 x → PP bb w D pm_336 (ex_doTable_52 c N v1 m x j) (Q2 (.inr x))) : PP bb w D pm_336 (137, [(0, .ref 189), (1, .int (i32 v1)), (2, .int (i32 v2)), (3, .int (i32 v3)), (4, .int (i32 (j 4)))], [], (mhp m c, N), 0, 0) (QS Q2 (rfl_doTable_137 v1 v2 v3 m)) := by
  unfold rfl_doTable_137
  show PP bb w D pm_336 (137, [(0, .ref 189), (1, .int (i32 v1)), (2, .int (i32 v2)), (3, .int (i32 v3)), (4, .int (i32 (j 4)))], [], (mhp (mO m [] []) c, N), 0, 0) _
  refine P_ld 138 (.int (i32 0)) rfl (fun _ => rfl) ?_
  exact dg_doTable_138 w c N D bb v1 v2 v3 0 q1 q2 q3 (l32 0 rfl) m hm (jk [(4, j 4)]) Q2 H1 H2
def rfl_doTable_133 (v1 : Int) (v2 : Int) (v3 : Int) (m : mR) : Option (Sum (Int × Int) (Int)) :=
  rfl_doTable_138 v1 v2 v3 1 m
theorem dg_doTable_133 (w : wX) (c : Nat → Option am_C) (N D : Nat) (bb : Nat) (v1 : Int) (v2 : Int) (v3 : Int) (q1 : R32 v1) (q2 : R32 v2) (q3 : R32 v3) (m : mR) (hm : Cn m) (j : Nat → Int) (Q2 : Sum (Int × Int) (Int) → ag_Re af_T → Prop) (H1 : ∀ s j, cs_doTable_52 s → PP bb w D pm_336 (hd_doTable_52 c N v1 m s j) (Q2 (.inl s))) (H2 : ∀ x j, cx_doTable_52 x → PP bb w D pm_336 (ex_doTable_52 c N v1 m x j) (Q2 (.inr x))) : PP bb w D pm_336 (133, [(0, .ref 189), (1, .int (i32 v1)), (2, .int (i32 v2)), (3, .int (i32 v3)), (4, .int (i32 (j 4)))], [], (mhp m c, N), 0, 0) (QS Q2 (rfl_doTable_133 v1 v2 v3 m)) := by
  unfold rfl_doTable_133
  show PP bb w D pm_336 (133, [(0, .ref 189), (1, .int (i32 v1)), (2, .int (i32 v2)), (3, .int (i32 v3)), (4, .int (i32 (j 4)))], [], (mhp (mO m [] []) c, N), 0, 0) _
  refine P_ld 134 (.int (i32 1)) rfl (fun _ => rfl) ?_
  refine P_goto 138 rfl (fun _ => rfl) ?_
  exact dg_doTable_138 w c N D bb v1 v2 v3 1 q1 q2 q3 (l32 1 rfl) m hm (jk [(4, j 4)]) Q2 H1 H2
def rfb_doTable_52 (v1 : Int) (m : mR) (s : Int × Int) : Option (Sum (Int × Int) (Int)) :=
  if (m.2 139) v1 ≤ s.2 then
    some (.inr s.1)
  else
    bnd (rf_matches v1 s.2 m) fun y27 =>
    if y27 = 0 then
      rfl_doTable_151 v1 s.1 s.2 m
    else
      if s.1 < 0 then
        rfl_doTable_133 v1 s.1 s.2 m
      else
        bnd (rf_prefixOf v1 s.2 m) fun y31 =>
        bnd (rf_prefixOf v1 s.1 m) fun y33 =>
        if y33 < y31 then
          rfl_doTable_133 v1 s.1 s.2 m
        else
          bnd (rf_prefixOf v1 s.2 m) fun y36 =>
          bnd (rf_prefixOf v1 s.1 m) fun y38 =>
          if y36 = y38 then
            bnd (rf_slot v1 s.2 m) fun y41 =>
            bnd (rf_slot v1 s.1 m) fun y43 =>
            if (m.2 140) y41 ≤ (m.2 140) y43 then
              rfl_doTable_137 v1 s.1 s.2 m
            else
              rfl_doTable_133 v1 s.1 s.2 m
          else
            rfl_doTable_137 v1 s.1 s.2 m
theorem dh_doTable_52 (w : wX) (c : Nat → Option am_C) (N D : Nat) (v1 : Int) (q1 : R32 v1) (m : mR) (hm : Cn m) (bb : Nat) (Q2 : Sum (Int × Int) (Int) → ag_Re af_T → Prop) (H1 : ∀ s j, cs_doTable_52 s → PP bb w D pm_336 (hd_doTable_52 c N v1 m s j) (Q2 (.inl s))) (H2 : ∀ x j, cx_doTable_52 x → PP bb w D pm_336 (ex_doTable_52 c N v1 m x j) (Q2 (.inr x))) (s : Int × Int) (j : Nat → Int) (hs : cs_doTable_52 s) : PP (bb + 1) w D pm_336 (hd_doTable_52 c N v1 m s j) (QS Q2 (rfb_doTable_52 v1 m s)) := by
  obtain ⟨g2, g3⟩ := hs
  unfold rfb_doTable_52
  show PP (bb + 1) w D pm_336 (52, [(0, .ref 189), (1, .int (i32 v1)), (2, .int (i32 s.1)), (3, .int (i32 s.2)), (4, .int (i32 (j 4)))], [], (mhp (mO m [] []) c, N), 0, 0) _
  refine P1_ld 53 (.int (i32 s.2)) rfl (fun _ => rfl) ?_
  refine P_gf 57 (.ref 293) rfl rfl rfl rfl rfl rfl ?_
  refine P_ld 58 (.int (i32 v1)) rfl (fun _ => rfl) ?_
  refine P_iald2 59 139 (m.2 139) rfl rfl rfl q1 rfl ?_
  refine P_icF 157 62 rfl rfl rfl g3 (rE_i (Cn_a hm 139) rfl _) rfl (fun h26 => ?_) (fun h26 => ?_)
  · skip
    refine P_some ?_
    exact H2 s.1 (jk [(3, s.2), (4, j 4)]) g2
  · skip
    refine P_ld 63 (.ref 189) rfl (fun _ => rfl) ?_
    refine P_ld 64 (.int (i32 v1)) rfl (fun _ => rfl) ?_
    refine P_ld 65 (.int (i32 s.2)) rfl (fun _ => rfl) ?_
    refine P_cp1 68 337 [.ref 189, .int (i32 v1), .int (i32 s.2)] [] rfl (fun _ => rfl) rfl (D_matches w m c N D hm v1 s.2 q1 g3) (fun y27 h28 => ?_)
    refine P_ifE 74 71 rfl rfl rfl h28 rfl (fun h29 => ?_) (fun h29 => ?_)
    · skip
      refine P_goto 151 rfl (fun _ => rfl) ?_
      exact dg_doTable_151 w c N D bb v1 s.1 s.2 q1 g2 g3 m hm (jk [(4, j 4)]) Q2 H1 H2
    · skip
      refine P_ld 75 (.int (i32 s.1)) rfl (fun _ => rfl) ?_
      refine P_ifF 133 78 rfl rfl rfl g2 rfl (fun h30 => ?_) (fun h30 => ?_)
      · skip
        exact dg_doTable_133 w c N D bb v1 s.1 s.2 q1 g2 g3 m hm (jk [(4, j 4)]) Q2 H1 H2
      · skip
        refine P_ld 79 (.ref 189) rfl (fun _ => rfl) ?_
        refine P_ld 80 (.int (i32 v1)) rfl (fun _ => rfl) ?_
        refine P_ld 81 (.int (i32 s.2)) rfl (fun _ => rfl) ?_
        refine P_cp1 84 338 [.ref 189, .int (i32 v1), .int (i32 s.2)] [] rfl (fun _ => rfl) rfl (D_prefixOf w m c N D hm v1 s.2 q1 g3) (fun y31 h32 => ?_)
        refine P_ld 85 (.ref 189) rfl (fun _ => rfl) ?_
        refine P_ld 86 (.int (i32 v1)) rfl (fun _ => rfl) ?_
        refine P_ld 87 (.int (i32 s.1)) rfl (fun _ => rfl) ?_
        refine P_cp1 90 338 [.ref 189, .int (i32 v1), .int (i32 s.1)] [.int (i32 y31)] rfl (fun _ => rfl) rfl (D_prefixOf w m c N D hm v1 s.1 q1 g2) (fun y33 h34 => ?_)
        refine P_icF 133 93 rfl rfl rfl h32 h34 rfl (fun h35 => ?_) (fun h35 => ?_)
        · skip
          exact dg_doTable_133 w c N D bb v1 s.1 s.2 q1 g2 g3 m hm (jk [(4, j 4)]) Q2 H1 H2
        · skip
          refine P_ld 94 (.ref 189) rfl (fun _ => rfl) ?_
          refine P_ld 95 (.int (i32 v1)) rfl (fun _ => rfl) ?_
          refine P_ld 96 (.int (i32 s.2)) rfl (fun _ => rfl) ?_
          refine P_cp1 99 338 [.ref 189, .int (i32 v1), .int (i32 s.2)] [] rfl (fun _ => rfl) rfl (D_prefixOf w m c N D hm v1 s.2 q1 g3) (fun y36 h37 => ?_)
          refine P_ld 100 (.ref 189) rfl (fun _ => rfl) ?_
          refine P_ld 101 (.int (i32 v1)) rfl (fun _ => rfl) ?_
          refine P_ld 102 (.int (i32 s.1)) rfl (fun _ => rfl) ?_
          refine P_cp1 105 338 [.ref 189, .int (i32 v1), .int (i32 s.1)] [.int (i32 y36)] rfl (fun _ => rfl) rfl (D_prefixOf w m c N D hm v1 s.1 q1 g2) (fun y38 h39 => ?_)
          refine P_icE 137 108 rfl rfl rfl h37 h39 rfl (fun h40 => ?_) (fun h40 => ?_)
          · skip
            refine P_gf 112 (.ref 294) rfl rfl rfl rfl rfl rfl ?_
            refine P_ld 113 (.ref 189) rfl (fun _ => rfl) ?_
            refine P_ld 114 (.int (i32 v1)) rfl (fun _ => rfl) ?_
            refine P_ld 115 (.int (i32 s.2)) rfl (fun _ => rfl) ?_
            refine P_cp1 118 319 [.ref 189, .int (i32 v1), .int (i32 s.2)] [.ref 294] rfl (fun _ => rfl) rfl (D_slot w m c N D hm v1 s.2 q1 g3) (fun y41 h42 => ?_)
            refine P_iald2 119 140 (m.2 140) rfl rfl rfl h42 rfl ?_
            refine P_gf 123 (.ref 294) rfl rfl rfl rfl rfl rfl ?_
            refine P_ld 124 (.ref 189) rfl (fun _ => rfl) ?_
            refine P_ld 125 (.int (i32 v1)) rfl (fun _ => rfl) ?_
            refine P_ld 126 (.int (i32 s.1)) rfl (fun _ => rfl) ?_
            refine P_cp1 129 319 [.ref 189, .int (i32 v1), .int (i32 s.1)] [.ref 294, .int (i32 ((m.2 140) y41))] rfl (fun _ => rfl) rfl (D_slot w m c N D hm v1 s.1 q1 g2) (fun y43 h44 => ?_)
            refine P_iald2 130 140 (m.2 140) rfl rfl rfl h44 rfl ?_
            refine P_icF 137 133 rfl rfl rfl (rE_i (Cn_a hm 140) rfl _) (rE_i (Cn_a hm 140) rfl _) rfl (fun h45 => ?_) (fun h45 => ?_)
            · skip
              exact dg_doTable_137 w c N D bb v1 s.1 s.2 q1 g2 g3 m hm (jk [(4, j 4)]) Q2 H1 H2
            · skip
              exact dg_doTable_133 w c N D bb v1 s.1 s.2 q1 g2 g3 m hm (jk [(4, j 4)]) Q2 H1 H2
          · skip
            exact dg_doTable_137 w c N D bb v1 s.1 s.2 q1 g2 g3 m hm (jk [(4, j 4)]) Q2 H1 H2
def rfl_doTable_48 (v1 : Int) (m : mR) : Option (Int × mR) :=
  bnd (whl (rfb_doTable_52 v1 m) ((-1), 0)) (fun e46 : Int =>
    rfl_doTable_157 v1 e46 m)
theorem dg_doTable_48 (w : wX) (c : Nat → Option am_C) (N D : Nat) (bb : Nat) (v1 : Int) (q1 : R32 v1) (m : mR) (hm : Cn m) (j : Nat → Int) : PP bb w D pm_336 (48, [(0, .ref 189), (1, .int (i32 v1)), (2, .int (i32 (j 2)))], [], (mhp m c, N), 0, 0) (QS (FR1 c N) (rfl_doTable_48 v1 m)) := by
  unfold rfl_doTable_48
  show PP bb w D pm_336 (48, [(0, .ref 189), (1, .int (i32 v1)), (2, .int (i32 (j 2)))], [], (mhp (mO m [] []) c, N), 0, 0) _
  refine P_ld 49 (.int (i32 (-1))) rfl (fun _ => rfl) ?_
  refine P_sto 50 [(2, .int (i32 (-1))), (0, .ref 189), (1, .int (i32 v1))] rfl (fun _ => rfl) ?_
  refine P_ld 51 (.int (i32 0)) rfl (fun _ => rfl) ?_
  refine P_sto 52 [(3, .int (i32 0)), (2, .int (i32 (-1))), (0, .ref 189), (1, .int (i32 v1))] rfl (fun _ => rfl) ?_
  refine P_lv (b := [(0, .ref 189), (1, .int (i32 v1)), (2, .int (i32 (-1))), (3, .int (i32 0)), (4, .int (i32 0))]) rfl rfl ⟨rfl, rfl, rfl, rfl, trivial⟩ ?_
  refine P_bnd ?_
  refine P_whl (fun bb Q2 H1 H2 s9 j9 hs9 => dh_doTable_52 w c N D v1 q1 m hm bb Q2 H1 H2 s9 j9 hs9) bb (fun e46 j q47 => ?_) ((-1), 0) (jk []) ⟨(l32 (-1) rfl), (l32 0 rfl)⟩
  have q48 := q47
  show PP bb w D pm_336 (157, [(0, .ref 189), (1, .int (i32 v1)), (2, .int (i32 e46)), (3, .int (i32 (j 3))), (4, .int (i32 (j 4)))], [], (mhp (mO m [] []) c, N), 0, 0) (QS _ (rfl_doTable_157 v1 e46 m))
  exact dg_doTable_157 w c N D bb v1 e46 q1 q48 m hm (jk [(3, j 3), (4, j 4)])
def rfl_doTable_41 (v1 : Int) (v2 : Int) (u1 : Int) (u2 : Int) (m : mR) : Option (Sum (Int × mR) (mR)) :=
  some (.inl (cut (v2 + 1), (mO m [] [(178, upI (m.2 178) u1 u2)])))
theorem dg_doTable_41 (w : wX) (c : Nat → Option am_C) (N D : Nat) (bb : Nat) (v1 : Int) (v2 : Int) (u1 : Int) (u2 : Int) (q1 : R32 v1) (q2 : R32 v2) (r1 : R32 u1) (r2 : R64 u2) (m : mR) (hm : Cn m) (j : Nat → Int) (Q2 : Sum (Int × mR) (mR) → ag_Re af_T → Prop) (H1 : ∀ s j, cs_doTable_2 s → PP bb w D pm_336 (hd_doTable_2 c N v1 s j) (Q2 (.inl s))) (H2 : ∀ x j, cx_doTable_2 x → PP bb w D pm_336 (ex_doTable_2 c N v1 x j) (Q2 (.inr x))) : PP bb w D pm_336 (41, [(0, .ref 189), (1, .int (i32 v1)), (2, .int (i32 v2))], [.long (i64 u2), .int (i32 u1), .ref 325], (mhp m c, N), 0, 0) (QS Q2 (rfl_doTable_41 v1 v2 u1 u2 m)) := by
  unfold rfl_doTable_41
  show PP bb w D pm_336 (41, [(0, .ref 189), (1, .int (i32 v1)), (2, .int (i32 v2))], [.long (i64 u2), .int (i32 u1), .ref 325], (mhp (mO m [] []) c, N), 0, 0) _
  refine P_last2 (a' := [(178, upI (m.2 178) u1 u2)]) 42 178 (m.2 178) rfl rfl rfl r1 rfl rfl ?_
  refine P_inc 45 [(2, .int (i32 (cut (v2 + 1)))), (0, .ref 189), (1, .int (i32 v1))] rfl rfl (by decide) rfl rfl ?_
  refine P_goto 2 rfl (fun _ => rfl) ?_
  refine P_some ?_
  refine P_lv (b := [(0, .ref 189), (1, .int (i32 v1)), (2, .int (i32 (cut (v2 + 1))))]) rfl rfl ⟨rfl, rfl, rfl, trivial⟩ ?_
  exact H1 (cut (v2 + 1), (mO m [] [(178, upI (m.2 178) u1 u2)])) (jk []) ⟨cut_r, (Cn_mO hm trivial ⟨(rE_ul (Cn_a hm 178) rfl r2), trivial⟩)⟩
def rfb_doTable_2 (v1 : Int) (s : Int × mR) : Option (Sum (Int × mR) (mR)) :=
  if (s.2.2 51) v1 ≤ s.1 then
    some (.inr s.2)
  else
    bnd (rf_worth ((s.2.2 110) (cut ((cut (4 * v1)) + s.1))) ((s.2.2 111) (cut ((cut (4 * v1)) + s.1))) s.2) fun y51 =>
    rfl_doTable_41 v1 s.1 s.1 y51.1 y51.2
theorem dh_doTable_2 (w : wX) (c : Nat → Option am_C) (N D : Nat) (v1 : Int) (q1 : R32 v1) (bb : Nat) (Q2 : Sum (Int × mR) (mR) → ag_Re af_T → Prop) (H1 : ∀ s j, cs_doTable_2 s → PP bb w D pm_336 (hd_doTable_2 c N v1 s j) (Q2 (.inl s))) (H2 : ∀ x j, cx_doTable_2 x → PP bb w D pm_336 (ex_doTable_2 c N v1 x j) (Q2 (.inr x))) (s : Int × mR) (j : Nat → Int) (hs : cs_doTable_2 s) : PP (bb + 1) w D pm_336 (hd_doTable_2 c N v1 s j) (QS Q2 (rfb_doTable_2 v1 s)) := by
  obtain ⟨g2, gm⟩ := hs
  unfold rfb_doTable_2
  show PP (bb + 1) w D pm_336 (2, [(0, .ref 189), (1, .int (i32 v1)), (2, .int (i32 s.1))], [], (mhp (mO s.2 [] []) c, N), 0, 0) _
  refine P1_ld 3 (.int (i32 s.1)) rfl (fun _ => rfl) ?_
  refine P_gf 7 (.ref 221) rfl rfl rfl rfl rfl rfl ?_
  refine P_ld 8 (.int (i32 v1)) rfl (fun _ => rfl) ?_
  refine P_iald2 9 51 (s.2.2 51) rfl rfl rfl q1 rfl ?_
  refine P_icF 48 12 rfl rfl rfl g2 (rE_i (Cn_a gm 51) rfl _) rfl (fun h50 => ?_) (fun h50 => ?_)
  · skip
    refine P_some ?_
    exact H2 s.2 (jk [(2, s.1)]) gm
  · skip
    refine P_gf 16 (.ref 325) rfl rfl rfl rfl rfl rfl ?_
    refine P_ld 17 (.int (i32 s.1)) rfl (fun _ => rfl) ?_
    refine P_ld 18 (.ref 189) rfl (fun _ => rfl) ?_
    refine P_gf 22 (.ref 270) rfl rfl rfl rfl rfl rfl ?_
    refine P_ld 23 (.int (i32 4)) rfl (fun _ => rfl) ?_
    refine P_ld 24 (.int (i32 v1)) rfl (fun _ => rfl) ?_
    refine P_op 25 (cut (4 * v1)) _ rfl (fun _ => rfl) o_mul ?_
    refine P_ld 26 (.int (i32 s.1)) rfl (fun _ => rfl) ?_
    refine P_op 27 (cut ((cut (4 * v1)) + s.1)) _ rfl (fun _ => rfl) o_add ?_
    refine P_iald2 28 110 (s.2.2 110) rfl rfl rfl cut_r rfl ?_
    refine P_gf 32 (.ref 271) rfl rfl rfl rfl rfl rfl ?_
    refine P_ld 33 (.int (i32 4)) rfl (fun _ => rfl) ?_
    refine P_ld 34 (.int (i32 v1)) rfl (fun _ => rfl) ?_
    refine P_op 35 (cut (4 * v1)) _ rfl (fun _ => rfl) o_mul ?_
    refine P_ld 36 (.int (i32 s.1)) rfl (fun _ => rfl) ?_
    refine P_op 37 (cut ((cut (4 * v1)) + s.1)) _ rfl (fun _ => rfl) o_add ?_
    refine P_iald2 38 111 (s.2.2 111) rfl rfl rfl cut_r rfl ?_
    refine P_ca2 41 327 [.ref 189, .int (i32 ((s.2.2 110) (cut ((cut (4 * v1)) + s.1)))), .int (i32 ((s.2.2 111) (cut ((cut (4 * v1)) + s.1))))] [.int (i32 s.1), .ref 325] rfl (fun _ => rfl) rfl (D_worth w s.2 c N D gm ((s.2.2 110) (cut ((cut (4 * v1)) + s.1))) ((s.2.2 111) (cut ((cut (4 * v1)) + s.1))) (rE_i (Cn_a gm 110) rfl _) (rE_i (Cn_a gm 111) rfl _)) (fun y51 h52 n53 => ?_)
    exact dg_doTable_41 w c N D bb v1 s.1 s.1 y51.1 q1 g2 g2 h52 y51.2 n53 (jk []) Q2 H1 H2
def rf_doTable (v1 : Int) (m : mR) : Option (Int × mR) :=
  bnd (whl (rfb_doTable_2 v1) (0, m)) (fun e54 : mR =>
    rfl_doTable_48 v1 e54)
theorem D_doTable (w : wX) (m : mR) (c : Nat → Option am_C) (N D : Nat) (hm : Cn m) (v1 : Int) (q1 : R32 v1) : PC w D 336 [.ref 189, .int (i32 v1)] (mhp m c, N) (QS (FR1 c N) (rf_doTable v1 m)) := by
  refine Pc_of (fun D bb => ?_) D
  unfold rf_doTable
  show PP bb w D pm_336 (0, [(0, .ref 189), (1, .int (i32 v1))], [], (mhp (mO m [] []) c, N), 0, 0) _
  refine P_ld 1 (.int (i32 0)) rfl (fun _ => rfl) ?_
  refine P_sto 2 [(2, .int (i32 0)), (0, .ref 189), (1, .int (i32 v1))] rfl (fun _ => rfl) ?_
  refine P_lv (b := [(0, .ref 189), (1, .int (i32 v1)), (2, .int (i32 0))]) rfl rfl ⟨rfl, rfl, rfl, trivial⟩ ?_
  refine P_bnd ?_
  refine P_whl (fun bb Q2 H1 H2 s9 j9 hs9 => dh_doTable_2 w c N D v1 q1 bb Q2 H1 H2 s9 j9 hs9) bb (fun e54 j q55 => ?_) (0, m) (jk []) ⟨(l32 0 rfl), hm⟩
  have q56 := q55
  show PP bb w D pm_336 (48, [(0, .ref 189), (1, .int (i32 v1)), (2, .int (i32 (j 2)))], [], (mhp (mO e54 [] []) c, N), 0, 0) (QS _ (rfl_doTable_48 v1 e54))
  exact dg_doTable_48 w c N D bb v1 q1 e54 q56 (jk [(2, j 2)])
def cs_goThrough_2 (s : Int × mR) : Prop := R32 s.1 ∧ Cn s.2
def cx_goThrough_2 : (mR) → Prop := (fun (e : mR) => Cn e)
def hd_goThrough_2 (c : Nat → Option am_C) (N : Nat) (v1 : Int) (s : Int × mR) (j : Nat → Int) : ag_St af_T := (2, [(0, .ref 189), (1, .int (i32 v1)), (2, .int (i32 s.1)), (3, .int (i32 (j 3))), (4, .int (i32 (j 4)))], [], (mhp s.2 c, N), 0, 0)
def ex_goThrough_2 (c : Nat → Option am_C) (N : Nat) (v1 : Int) : (mR) → (Nat → Int) → ag_St af_T := (fun (e : mR) (j : Nat → Int) => ((132, [(0, .ref 189), (1, .int (i32 (j 1))), (2, .int (i32 (j 2))), (3, .int (i32 (j 3))), (4, .int (i32 (j 4)))], [], (mhp e c, N), 0, 0) : ag_St af_T))
def rfl_goThrough_126 (v1 : Int) (v2 : Int) (m : mR) : Option (Sum (Int × mR) (mR)) :=
  some (.inl (cut (v2 + 1), m))
theorem dg_goThrough_126 (w : wX) (c : Nat → Option am_C) (N D : Nat) (bb : Nat) (v1 : Int) (v2 : Int) (q1 : R32 v1) (q2 : R32 v2) (m : mR) (hm : Cn m) (j : Nat → Int) (Q2 : Sum (Int × mR) (mR) → ag_Re af_T → Prop) (H1 : ∀ s j, cs_goThrough_2 s → PP bb w D pm_331 (hd_goThrough_2 c N v1 s j) (Q2 (.inl s))) (H2 : ∀ x j, cx_goThrough_2 x → PP bb w D pm_331 (ex_goThrough_2 c N v1 x j) (Q2 (.inr x))) : PP bb w D pm_331 (126, [(0, .ref 189), (1, .int (i32 v1)), (2, .int (i32 v2)), (3, .int (i32 (j 3))), (4, .int (i32 (j 4)))], [], (mhp m c, N), 0, 0) (QS Q2 (rfl_goThrough_126 v1 v2 m)) := by
  unfold rfl_goThrough_126
  show PP bb w D pm_331 (126, [(0, .ref 189), (1, .int (i32 v1)), (2, .int (i32 v2)), (3, .int (i32 (j 3))), (4, .int (i32 (j 4)))], [], (mhp (mO m [] []) c, N), 0, 0) _
  refine P_inc 129 [(2, .int (i32 (cut (v2 + 1)))), (0, .ref 189), (1, .int (i32 v1)), (3, .int (i32 (j 3))), (4, .int (i32 (j 4)))] rfl rfl (by decide) rfl rfl ?_
  refine P_goto 2 rfl (fun _ => rfl) ?_
  refine P_some ?_
  refine P_lv (b := [(0, .ref 189), (1, .int (i32 v1)), (2, .int (i32 (cut (v2 + 1)))), (3, .int (i32 (j 3))), (4, .int (i32 (j 4)))]) rfl rfl ⟨rfl, rfl, rfl, rfl, rfl, trivial⟩ ?_
  exact H1 (cut (v2 + 1), m) (jk [(3, j 3), (4, j 4)]) ⟨cut_r, hm⟩
def rfl_goThrough_113 (v1 : Int) (v2 : Int) (v4 : Int) (m : mR) : Option (Sum (Int × mR) (mR)) :=
  rfl_goThrough_126 v1 v2 (mO m [] [(169, upI (m.2 169) (cut ((cut (48 * v1)) + v2)) v4)])
theorem dg_goThrough_113 (w : wX) (c : Nat → Option am_C) (N D : Nat) (bb : Nat) (v1 : Int) (v2 : Int) (v4 : Int) (q1 : R32 v1) (q2 : R32 v2) (q4 : R32 v4) (m : mR) (hm : Cn m) (j : Nat → Int) (Q2 : Sum (Int × mR) (mR) → ag_Re af_T → Prop) (H1 : ∀ s j, cs_goThrough_2 s → PP bb w D pm_331 (hd_goThrough_2 c N v1 s j) (Q2 (.inl s))) (H2 : ∀ x j, cx_goThrough_2 x → PP bb w D pm_331 (ex_goThrough_2 c N v1 x j) (Q2 (.inr x))) : PP bb w D pm_331 (113, [(0, .ref 189), (1, .int (i32 v1)), (2, .int (i32 v2)), (3, .int (i32 (j 3))), (4, .int (i32 v4))], [], (mhp m c, N), 0, 0) (QS Q2 (rfl_goThrough_113 v1 v2 v4 m)) := by
  unfold rfl_goThrough_113
  show PP bb w D pm_331 (113, [(0, .ref 189), (1, .int (i32 v1)), (2, .int (i32 v2)), (3, .int (i32 (j 3))), (4, .int (i32 v4))], [], (mhp (mO m [] []) c, N), 0, 0) _
  refine P_gf 117 (.ref 318) rfl rfl rfl rfl rfl rfl ?_
  refine P_ld 119 (.int (i32 48)) rfl (fun _ => rfl) ?_
  refine P_ld 120 (.int (i32 v1)) rfl (fun _ => rfl) ?_
  refine P_op 121 (cut (48 * v1)) _ rfl (fun _ => rfl) o_mul ?_
  refine P_ld 122 (.int (i32 v2)) rfl (fun _ => rfl) ?_
  refine P_op 123 (cut ((cut (48 * v1)) + v2)) _ rfl (fun _ => rfl) o_add ?_
  refine P_ld 125 (.int (i32 v4)) rfl (fun _ => rfl) ?_
  refine P_iast2 (a' := [(169, upI (m.2 169) (cut ((cut (48 * v1)) + v2)) v4)]) 126 169 (m.2 169) rfl rfl rfl cut_r rfl rfl ?_
  exact dg_goThrough_126 w c N D bb v1 v2 q1 q2 (mO m [] [(169, upI (m.2 169) (cut ((cut (48 * v1)) + v2)) v4)]) (Cn_mO hm trivial ⟨(rE_ui (Cn_a hm 169) rfl q4), trivial⟩) (jk [(3, j 3), (4, v4)]) Q2 H1 H2
def rfl_goThrough_111 (v1 : Int) (v2 : Int) (u0 : Int) (m : mR) : Option (Sum (Int × mR) (mR)) :=
  rfl_goThrough_113 v1 v2 u0 m
theorem dg_goThrough_111 (w : wX) (c : Nat → Option am_C) (N D : Nat) (bb : Nat) (v1 : Int) (v2 : Int) (u0 : Int) (q1 : R32 v1) (q2 : R32 v2) (r0 : R32 u0) (m : mR) (hm : Cn m) (j : Nat → Int) (Q2 : Sum (Int × mR) (mR) → ag_Re af_T → Prop) (H1 : ∀ s j, cs_goThrough_2 s → PP bb w D pm_331 (hd_goThrough_2 c N v1 s j) (Q2 (.inl s))) (H2 : ∀ x j, cx_goThrough_2 x → PP bb w D pm_331 (ex_goThrough_2 c N v1 x j) (Q2 (.inr x))) : PP bb w D pm_331 (111, [(0, .ref 189), (1, .int (i32 v1)), (2, .int (i32 v2)), (3, .int (i32 (j 3))), (4, .int (i32 (j 4)))], [.int (i32 u0)], (mhp m c, N), 0, 0) (QS Q2 (rfl_goThrough_111 v1 v2 u0 m)) := by
  unfold rfl_goThrough_111
  show PP bb w D pm_331 (111, [(0, .ref 189), (1, .int (i32 v1)), (2, .int (i32 v2)), (3, .int (i32 (j 3))), (4, .int (i32 (j 4)))], [.int (i32 u0)], (mhp (mO m [] []) c, N), 0, 0) _
  refine P_sto 113 [(4, .int (i32 u0)), (0, .ref 189), (1, .int (i32 v1)), (2, .int (i32 v2)), (3, .int (i32 (j 3)))] rfl (fun _ => rfl) ?_
  refine P_lv (b := [(0, .ref 189), (1, .int (i32 v1)), (2, .int (i32 v2)), (3, .int (i32 (j 3))), (4, .int (i32 u0))]) rfl rfl ⟨rfl, rfl, rfl, rfl, rfl, trivial⟩ ?_
  exact dg_goThrough_113 w c N D bb v1 v2 u0 q1 q2 r0 m hm (jk [(3, j 3)]) Q2 H1 H2
def rfl_goThrough_95 (v1 : Int) (v2 : Int) (u0 : Int) (m : mR) : Option (Sum (Int × mR) (mR)) :=
  rfl_goThrough_113 v1 v2 (cut u0) m
theorem dg_goThrough_95 (w : wX) (c : Nat → Option am_C) (N D : Nat) (bb : Nat) (v1 : Int) (v2 : Int) (u0 : Int) (q1 : R32 v1) (q2 : R32 v2) (r0 : R64 u0) (m : mR) (hm : Cn m) (j : Nat → Int) (Q2 : Sum (Int × mR) (mR) → ag_Re af_T → Prop) (H1 : ∀ s j, cs_goThrough_2 s → PP bb w D pm_331 (hd_goThrough_2 c N v1 s j) (Q2 (.inl s))) (H2 : ∀ x j, cx_goThrough_2 x → PP bb w D pm_331 (ex_goThrough_2 c N v1 x j) (Q2 (.inr x))) : PP bb w D pm_331 (95, [(0, .ref 189), (1, .int (i32 v1)), (2, .int (i32 v2)), (3, .int (i32 (j 3))), (4, .int (i32 (j 4)))], [.long (i64 u0)], (mhp m c, N), 0, 0) (QS Q2 (rfl_goThrough_95 v1 v2 u0 m)) := by
  unfold rfl_goThrough_95
  show PP bb w D pm_331 (95, [(0, .ref 189), (1, .int (i32 v1)), (2, .int (i32 v2)), (3, .int (i32 (j 3))), (4, .int (i32 (j 4)))], [.long (i64 u0)], (mhp (mO m [] []) c, N), 0, 0) _
  refine P_op 96 (cut u0) _ rfl (fun _ => rfl) o_l2i ?_
  refine P_sto 98 [(4, .int (i32 (cut u0))), (0, .ref 189), (1, .int (i32 v1)), (2, .int (i32 v2)), (3, .int (i32 (j 3)))] rfl (fun _ => rfl) ?_
  refine P_goto 113 rfl (fun _ => rfl) ?_
  refine P_lv (b := [(0, .ref 189), (1, .int (i32 v1)), (2, .int (i32 v2)), (3, .int (i32 (j 3))), (4, .int (i32 (cut u0)))]) rfl rfl ⟨rfl, rfl, rfl, rfl, rfl, trivial⟩ ?_
  exact dg_goThrough_113 w c N D bb v1 v2 (cut u0) q1 q2 cut_r m hm (jk [(3, j 3)]) Q2 H1 H2
def rfl_goThrough_44 (v1 : Int) (v2 : Int) (m : mR) : Option (Sum (Int × mR) (mR)) :=
  if (m.2 60) v2 = 0 then
    bnd (rf_doStatement ((m.2 120) v2) m) fun y10 =>
    rfl_goThrough_113 v1 v2 0 y10.2
  else
    if (m.2 60) v2 = 1 then
      bnd (rf_worth ((m.2 121) v2) ((m.2 122) v2) m) fun y7 =>
      rfl_goThrough_95 v1 v2 y7.1 y7.2
    else
      bnd (rf_doTable ((m.2 63) v2) m) fun y4 =>
      rfl_goThrough_111 v1 v2 y4.1 y4.2
theorem dg_goThrough_44 (w : wX) (c : Nat → Option am_C) (N D : Nat) (bb : Nat) (v1 : Int) (v2 : Int) (q1 : R32 v1) (q2 : R32 v2) (m : mR) (hm : Cn m) (j : Nat → Int) (Q2 : Sum (Int × mR) (mR) → ag_Re af_T → Prop) (H1 : ∀ s j, cs_goThrough_2 s → PP bb w D pm_331 (hd_goThrough_2 c N v1 s j) (Q2 (.inl s))) (H2 : ∀ x j, cx_goThrough_2 x → PP bb w D pm_331 (ex_goThrough_2 c N v1 x j) (Q2 (.inr x))) : PP bb w D pm_331 (44, [(0, .ref 189), (1, .int (i32 v1)), (2, .int (i32 v2)), (3, .int (i32 (j 3))), (4, .int (i32 (j 4)))], [], (mhp m c, N), 0, 0) (QS Q2 (rfl_goThrough_44 v1 v2 m)) := by
  unfold rfl_goThrough_44
  show PP bb w D pm_331 (44, [(0, .ref 189), (1, .int (i32 v1)), (2, .int (i32 v2)), (3, .int (i32 (j 3))), (4, .int (i32 (j 4)))], [], (mhp (mO m [] []) c, N), 0, 0) _
  refine P_ld 45 (.int (i32 0)) rfl (fun _ => rfl) ?_
  refine P_sto 47 [(4, .int (i32 0)), (0, .ref 189), (1, .int (i32 v1)), (2, .int (i32 v2)), (3, .int (i32 (j 3)))] rfl (fun _ => rfl) ?_
  refine P_gf 51 (.ref 230) rfl rfl rfl rfl rfl rfl ?_
  refine P_ld 52 (.int (i32 v2)) rfl (fun _ => rfl) ?_
  refine P_iald2 53 60 (m.2 60) rfl rfl rfl q2 rfl ?_
  refine P_ifE 69 56 rfl rfl rfl (rE_i (Cn_a hm 60) rfl _) rfl (fun h2 => ?_) (fun h2 => ?_)
  · skip
    refine P_ld 57 (.ref 189) rfl (fun _ => rfl) ?_
    refine P_gf 61 (.ref 279) rfl rfl rfl rfl rfl rfl ?_
    refine P_ld 62 (.int (i32 v2)) rfl (fun _ => rfl) ?_
    refine P_iald2 63 120 (m.2 120) rfl rfl rfl q2 rfl ?_
    refine P_ca0 66 332 [.ref 189, .int (i32 ((m.2 120) v2))] [] rfl (fun _ => rfl) rfl (D_doStatement w m c N D hm ((m.2 120) v2) (rE_i (Cn_a hm 120) rfl _)) (fun y10 n12 => ?_)
    refine P_goto 113 rfl (fun _ => rfl) ?_
    refine P_lv (b := [(0, .ref 189), (1, .int (i32 v1)), (2, .int (i32 v2)), (3, .int (i32 (j 3))), (4, .int (i32 0))]) rfl rfl ⟨rfl, rfl, rfl, rfl, rfl, trivial⟩ ?_
    exact dg_goThrough_113 w c N D bb v1 v2 0 q1 q2 (l32 0 rfl) y10.2 n12 (jk [(3, j 3)]) Q2 H1 H2
  · skip
    refine P_gf 73 (.ref 230) rfl rfl rfl rfl rfl rfl ?_
    refine P_ld 74 (.int (i32 v2)) rfl (fun _ => rfl) ?_
    refine P_iald2 75 60 (m.2 60) rfl rfl rfl q2 rfl ?_
    refine P_ld 76 (.int (i32 1)) rfl (fun _ => rfl) ?_
    refine P_icE 101 79 rfl rfl rfl (rE_i (Cn_a hm 60) rfl _) (l32 1 rfl) rfl (fun h3 => ?_) (fun h3 => ?_)
    · skip
      refine P_ld 80 (.ref 189) rfl (fun _ => rfl) ?_
      refine P_gf 84 (.ref 280) rfl rfl rfl rfl rfl rfl ?_
      refine P_ld 85 (.int (i32 v2)) rfl (fun _ => rfl) ?_
      refine P_iald2 86 121 (m.2 121) rfl rfl rfl q2 rfl ?_
      refine P_gf 90 (.ref 281) rfl rfl rfl rfl rfl rfl ?_
      refine P_ld 91 (.int (i32 v2)) rfl (fun _ => rfl) ?_
      refine P_iald2 92 122 (m.2 122) rfl rfl rfl q2 rfl ?_
      refine P_ca2 95 327 [.ref 189, .int (i32 ((m.2 121) v2)), .int (i32 ((m.2 122) v2))] [] rfl (fun _ => rfl) rfl (D_worth w m c N D hm ((m.2 121) v2) ((m.2 122) v2) (rE_i (Cn_a hm 121) rfl _) (rE_i (Cn_a hm 122) rfl _)) (fun y7 h8 n9 => ?_)
      refine P_lv (b := [(0, .ref 189), (1, .int (i32 v1)), (2, .int (i32 v2)), (3, .int (i32 (j 3))), (4, .int (i32 0))]) rfl rfl ⟨rfl, rfl, rfl, rfl, rfl, trivial⟩ ?_
      exact dg_goThrough_95 w c N D bb v1 v2 y7.1 q1 q2 h8 y7.2 n9 (jk [(3, j 3), (4, 0)]) Q2 H1 H2
    · skip
      refine P_ld 102 (.ref 189) rfl (fun _ => rfl) ?_
      refine P_gf 106 (.ref 233) rfl rfl rfl rfl rfl rfl ?_
      refine P_ld 107 (.int (i32 v2)) rfl (fun _ => rfl) ?_
      refine P_iald2 108 63 (m.2 63) rfl rfl rfl q2 rfl ?_
      refine P_ca1 111 336 [.ref 189, .int (i32 ((m.2 63) v2))] [] rfl (fun _ => rfl) rfl (D_doTable w m c N D hm ((m.2 63) v2) (rE_i (Cn_a hm 63) rfl _)) (fun y4 h5 n6 => ?_)
      refine P_lv (b := [(0, .ref 189), (1, .int (i32 v1)), (2, .int (i32 v2)), (3, .int (i32 (j 3))), (4, .int (i32 0))]) rfl rfl ⟨rfl, rfl, rfl, rfl, rfl, trivial⟩ ?_
      exact dg_goThrough_111 w c N D bb v1 v2 y4.1 q1 q2 h5 y4.2 n6 (jk [(3, j 3), (4, 0)]) Q2 H1 H2
def rfb_goThrough_2 (v1 : Int) (s : Int × mR) : Option (Sum (Int × mR) (mR)) :=
  if s.2.1 27 ≤ s.1 then
    some (.inr s.2)
  else
    if (s.2.2 61) s.1 < 0 then
      rfl_goThrough_44 v1 s.1 s.2
    else
      if (s.2.2 169) (cut ((cut (48 * v1)) + ((s.2.2 61) s.1))) = (s.2.2 62) s.1 then
        rfl_goThrough_44 v1 s.1 s.2
      else
        rfl_goThrough_126 v1 s.1 s.2
theorem dh_goThrough_2 (w : wX) (c : Nat → Option am_C) (N D : Nat) (v1 : Int) (q1 : R32 v1) (bb : Nat) (Q2 : Sum (Int × mR) (mR) → ag_Re af_T → Prop) (H1 : ∀ s j, cs_goThrough_2 s → PP bb w D pm_331 (hd_goThrough_2 c N v1 s j) (Q2 (.inl s))) (H2 : ∀ x j, cx_goThrough_2 x → PP bb w D pm_331 (ex_goThrough_2 c N v1 x j) (Q2 (.inr x))) (s : Int × mR) (j : Nat → Int) (hs : cs_goThrough_2 s) : PP (bb + 1) w D pm_331 (hd_goThrough_2 c N v1 s j) (QS Q2 (rfb_goThrough_2 v1 s)) := by
  obtain ⟨g2, gm⟩ := hs
  unfold rfb_goThrough_2
  show PP (bb + 1) w D pm_331 (2, [(0, .ref 189), (1, .int (i32 v1)), (2, .int (i32 s.1)), (3, .int (i32 (j 3))), (4, .int (i32 (j 4)))], [], (mhp (mO s.2 [] []) c, N), 0, 0) _
  refine P1_ld 3 (.int (i32 s.1)) rfl (fun _ => rfl) ?_
  refine P_gf 7 (.int (i32 (s.2.1 27))) rfl rfl rfl rfl rfl rfl ?_
  refine P_icF 132 10 rfl rfl rfl g2 (Cn_i gm 27 rfl) rfl (fun h14 => ?_) (fun h14 => ?_)
  · skip
    refine P_some ?_
    exact H2 s.2 (jk [(1, v1), (2, s.1), (3, j 3), (4, j 4)]) gm
  · skip
    refine P_gf 14 (.ref 231) rfl rfl rfl rfl rfl rfl ?_
    refine P_ld 15 (.int (i32 s.1)) rfl (fun _ => rfl) ?_
    refine P_iald2 16 61 (s.2.2 61) rfl rfl rfl g2 rfl ?_
    refine P_sto 17 [(3, .int (i32 ((s.2.2 61) s.1))), (0, .ref 189), (1, .int (i32 v1)), (2, .int (i32 s.1)), (4, .int (i32 (j 4)))] rfl (fun _ => rfl) ?_
    refine P_ld 18 (.int (i32 ((s.2.2 61) s.1))) rfl (fun _ => rfl) ?_
    refine P_ifF 44 21 rfl rfl rfl (rE_i (Cn_a gm 61) rfl _) rfl (fun h15 => ?_) (fun h15 => ?_)
    · skip
      refine P_lv (b := [(0, .ref 189), (1, .int (i32 v1)), (2, .int (i32 s.1)), (3, .int (i32 ((s.2.2 61) s.1))), (4, .int (i32 (j 4)))]) rfl rfl ⟨rfl, rfl, rfl, rfl, rfl, trivial⟩ ?_
      exact dg_goThrough_44 w c N D bb v1 s.1 q1 g2 s.2 gm (jk [(3, (s.2.2 61) s.1), (4, j 4)]) Q2 H1 H2
    · skip
      refine P_gf 25 (.ref 318) rfl rfl rfl rfl rfl rfl ?_
      refine P_ld 27 (.int (i32 48)) rfl (fun _ => rfl) ?_
      refine P_ld 28 (.int (i32 v1)) rfl (fun _ => rfl) ?_
      refine P_op 29 (cut (48 * v1)) _ rfl (fun _ => rfl) o_mul ?_
      refine P_ld 30 (.int (i32 ((s.2.2 61) s.1))) rfl (fun _ => rfl) ?_
      refine P_op 31 (cut ((cut (48 * v1)) + ((s.2.2 61) s.1))) _ rfl (fun _ => rfl) o_add ?_
      refine P_iald2 32 169 (s.2.2 169) rfl rfl rfl cut_r rfl ?_
      refine P_gf 36 (.ref 232) rfl rfl rfl rfl rfl rfl ?_
      refine P_ld 37 (.int (i32 s.1)) rfl (fun _ => rfl) ?_
      refine P_iald2 38 62 (s.2.2 62) rfl rfl rfl g2 rfl ?_
      refine P_icF 44 41 rfl rfl rfl (rE_i (Cn_a gm 169) rfl _) (rE_i (Cn_a gm 62) rfl _) rfl (fun h16 => ?_) (fun h16 => ?_)
      · skip
        refine P_lv (b := [(0, .ref 189), (1, .int (i32 v1)), (2, .int (i32 s.1)), (3, .int (i32 ((s.2.2 61) s.1))), (4, .int (i32 (j 4)))]) rfl rfl ⟨rfl, rfl, rfl, rfl, rfl, trivial⟩ ?_
        exact dg_goThrough_44 w c N D bb v1 s.1 q1 g2 s.2 gm (jk [(3, (s.2.2 61) s.1), (4, j 4)]) Q2 H1 H2
      · skip
        refine P_goto 126 rfl (fun _ => rfl) ?_
        refine P_lv (b := [(0, .ref 189), (1, .int (i32 v1)), (2, .int (i32 s.1)), (3, .int (i32 ((s.2.2 61) s.1))), (4, .int (i32 (j 4)))]) rfl rfl ⟨rfl, rfl, rfl, rfl, rfl, trivial⟩ ?_
        exact dg_goThrough_126 w c N D bb v1 s.1 q1 g2 s.2 gm (jk [(3, (s.2.2 61) s.1), (4, j 4)]) Q2 H1 H2
def rf_goThrough (v1 : Int) (m : mR) : Option (Int × mR) :=
  bnd (whl (rfb_goThrough_2 v1) (0, m)) (fun e17 : mR =>
    some (0, e17))
theorem D_goThrough (w : wX) (m : mR) (c : Nat → Option am_C) (N D : Nat) (hm : Cn m) (v1 : Int) (q1 : R32 v1) : PC w D 331 [.ref 189, .int (i32 v1)] (mhp m c, N) (QS (FR0 c N) (rf_goThrough v1 m)) := by
  refine Pc_of (fun D bb => ?_) D
  unfold rf_goThrough
  show PP bb w D pm_331 (0, [(0, .ref 189), (1, .int (i32 v1))], [], (mhp (mO m [] []) c, N), 0, 0) _
  refine P_ld 1 (.int (i32 0)) rfl (fun _ => rfl) ?_
  refine P_sto 2 [(2, .int (i32 0)), (0, .ref 189), (1, .int (i32 v1))] rfl (fun _ => rfl) ?_
  refine P_lv (b := [(0, .ref 189), (1, .int (i32 v1)), (2, .int (i32 0)), (3, .int (i32 0)), (4, .int (i32 0))]) rfl rfl ⟨rfl, rfl, rfl, trivial⟩ ?_
  refine P_bnd ?_
  refine P_whl (fun bb Q2 H1 H2 s9 j9 hs9 => dh_goThrough_2 w c N D v1 q1 bb Q2 H1 H2 s9 j9 hs9) bb (fun e17 j q18 => ?_) (0, m) (jk []) ⟨(l32 0 rfl), hm⟩
  have q19 := q18
  show PP bb w D pm_331 (132, [(0, .ref 189), (1, .int (i32 (j 1))), (2, .int (i32 (j 2))), (3, .int (i32 (j 3))), (4, .int (i32 (j 4)))], [], (mhp (mO e17 [] []) c, N), 0, 0) (QS _ (some (0, e17)))
  exact P_re0 rfl rfl q19
end X55BF
