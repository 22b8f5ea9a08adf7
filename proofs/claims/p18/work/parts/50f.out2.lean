noncomputable section X50F
def cs_feed_8 (s : Int × mR) : Prop := R32 s.1 ∧ Cn s.2
def cx_feed_8 : (mR) → Prop := (fun (e : mR) => Cn e)
def hd_feed_8 (c : Nat → Option am_C) (N : Nat) (v1 : Int) (v2 : Int) (v3 : Int) (v4 : Int) (v5 : Int) (s : Int × mR) (j : Nat → Int) : ag_St af_T := (8, [(0, .ref 189), (1, .int (i32 v1)), (2, .int (i32 v2)), (3, .int (i32 v3)), (4, .int (i32 v4)), (5, .int (i32 v5)), (6, .int (i32 s.1)), (7, .int (i32 (j 7)))], [], (mhp s.2 c, N), 0, 0)
def ex_feed_8 (c : Nat → Option am_C) (N : Nat) (v1 : Int) (v2 : Int) (v3 : Int) (v4 : Int) (v5 : Int) : (mR) → (Nat → Int) → ag_St af_T := (fun (e : mR) (j : Nat → Int) => ((118, [(0, .ref 189), (1, .int (i32 (j 1))), (2, .int (i32 (j 2))), (3, .int (i32 (j 3))), (4, .int (i32 (j 4))), (5, .int (i32 (j 5))), (6, .int (i32 (j 6))), (7, .int (i32 (j 7)))], [], (mhp e c, N), 0, 0) : ag_St af_T))
def rfb_feed_8 (v1 : Int) (v2 : Int) (v3 : Int) (v4 : Int) (v5 : Int) (s : Int × mR) : Option (Sum (Int × mR) (mR)) :=
  if (4 : Int) ≤ s.1 then
    some (.inr s.2)
  else
    some (.inl (cut (s.1 + 1), (mO s.2 [] [(2, upI (upI (upI (upI (upI (s.2.2 2) s.1 (and32 (shr32 v1 (cut (24 - (cut (8 * s.1))))) 255)) (cut (4 + s.1)) (and32 (shr32 v2 (cut (24 - (cut (8 * s.1))))) 255)) (cut (8 + s.1)) (and32 (shr32 v3 (cut (24 - (cut (8 * s.1))))) 255)) (cut (12 + s.1)) (and32 (shr32 v4 (cut (24 - (cut (8 * s.1))))) 255)) (cut (16 + s.1)) (and32 (shr32 v5 (cut (24 - (cut (8 * s.1))))) 255))])))
theorem dh_feed_8 (w : wX) (c : Nat → Option am_C) (N D : Nat) (v1 : Int) (v2 : Int) (v3 : Int) (v4 : Int) (v5 : Int) (q1 : R32 v1) (q2 : R32 v2) (q3 : R32 v3) (q4 : R32 v4) (q5 : R32 v5) (bb : Nat) (Q2 : Sum (Int × mR) (mR) → ag_Re af_T → Prop) (H1 : ∀ s j, cs_feed_8 s → PP bb w D pm_208 (hd_feed_8 c N v1 v2 v3 v4 v5 s j) (Q2 (.inl s))) (H2 : ∀ x j, cx_feed_8 x → PP bb w D pm_208 (ex_feed_8 c N v1 v2 v3 v4 v5 x j) (Q2 (.inr x))) (s : Int × mR) (j : Nat → Int) (hs : cs_feed_8 s) : PP (bb + 1) w D pm_208 (hd_feed_8 c N v1 v2 v3 v4 v5 s j) (QS Q2 (rfb_feed_8 v1 v2 v3 v4 v5 s)) := by
  obtain ⟨g6, gm⟩ := hs
  unfold rfb_feed_8
  show PP (bb + 1) w D pm_208 (8, [(0, .ref 189), (1, .int (i32 v1)), (2, .int (i32 v2)), (3, .int (i32 v3)), (4, .int (i32 v4)), (5, .int (i32 v5)), (6, .int (i32 s.1)), (7, .int (i32 (j 7)))], [], (mhp (mO s.2 [] []) c, N), 0, 0) _
  refine P1_ld 10 (.int (i32 s.1)) rfl (fun _ => rfl) ?_
  refine P_ld 11 (.int (i32 4)) rfl (fun _ => rfl) ?_
  refine P_icF 118 14 rfl rfl rfl g6 (l32 4 rfl) rfl (fun h3 => ?_) (fun h3 => ?_)
  · skip
    refine P_some ?_
    exact H2 s.2 (jk [(1, v1), (2, v2), (3, v3), (4, v4), (5, v5), (6, s.1), (7, j 7)]) gm
  · skip
    refine P_ld 16 (.int (i32 24)) rfl (fun _ => rfl) ?_
    refine P_ld 18 (.int (i32 8)) rfl (fun _ => rfl) ?_
    refine P_ld 20 (.int (i32 s.1)) rfl (fun _ => rfl) ?_
    refine P_op 21 (cut (8 * s.1)) _ rfl (fun _ => rfl) o_mul ?_
    refine P_op 22 (cut (24 - (cut (8 * s.1)))) _ rfl (fun _ => rfl) o_sub ?_
    refine P_sto 24 [(7, .int (i32 (cut (24 - (cut (8 * s.1)))))), (0, .ref 189), (1, .int (i32 v1)), (2, .int (i32 v2)), (3, .int (i32 v3)), (4, .int (i32 v4)), (5, .int (i32 v5)), (6, .int (i32 s.1))] rfl (fun _ => rfl) ?_
    refine P_gf 28 (.ref 191) rfl rfl rfl rfl rfl rfl ?_
    refine P_ld 30 (.int (i32 s.1)) rfl (fun _ => rfl) ?_
    refine P_ld 31 (.int (i32 v1)) rfl (fun _ => rfl) ?_
    refine P_ld 33 (.int (i32 (cut (24 - (cut (8 * s.1)))))) rfl (fun _ => rfl) ?_
    refine P_op 34 (shr32 v1 (cut (24 - (cut (8 * s.1))))) _ rfl (fun _ => rfl) (i32_of _).symm ?_
    refine P_ld 37 (.int (i32 255)) rfl (fun _ => rfl) ?_
    refine P_op 38 (and32 (shr32 v1 (cut (24 - (cut (8 * s.1))))) 255) _ rfl (fun _ => rfl) (i32_of _).symm ?_
    refine P_iast2 (a' := [(2, upI (s.2.2 2) s.1 (and32 (shr32 v1 (cut (24 - (cut (8 * s.1))))) 255))]) 39 2 (s.2.2 2) rfl rfl rfl g6 rfl rfl ?_
    refine P_gf 43 (.ref 191) rfl rfl rfl rfl rfl rfl ?_
    refine P_ld 44 (.int (i32 4)) rfl (fun _ => rfl) ?_
    refine P_ld 46 (.int (i32 s.1)) rfl (fun _ => rfl) ?_
    refine P_op 47 (cut (4 + s.1)) _ rfl (fun _ => rfl) o_add ?_
    refine P_ld 48 (.int (i32 v2)) rfl (fun _ => rfl) ?_
    refine P_ld 50 (.int (i32 (cut (24 - (cut (8 * s.1)))))) rfl (fun _ => rfl) ?_
    refine P_op 51 (shr32 v2 (cut (24 - (cut (8 * s.1))))) _ rfl (fun _ => rfl) (i32_of _).symm ?_
    refine P_ld 54 (.int (i32 255)) rfl (fun _ => rfl) ?_
    refine P_op 55 (and32 (shr32 v2 (cut (24 - (cut (8 * s.1))))) 255) _ rfl (fun _ => rfl) (i32_of _).symm ?_
    refine P_iast2 (a' := [(2, upI (upI (s.2.2 2) s.1 (and32 (shr32 v1 (cut (24 - (cut (8 * s.1))))) 255)) (cut (4 + s.1)) (and32 (shr32 v2 (cut (24 - (cut (8 * s.1))))) 255))]) 56 2 (upI (s.2.2 2) s.1 (and32 (shr32 v1 (cut (24 - (cut (8 * s.1))))) 255)) rfl rfl rfl cut_r rfl rfl ?_
    refine P_gf 60 (.ref 191) rfl rfl rfl rfl rfl rfl ?_
    refine P_ld 62 (.int (i32 8)) rfl (fun _ => rfl) ?_
    refine P_ld 64 (.int (i32 s.1)) rfl (fun _ => rfl) ?_
    refine P_op 65 (cut (8 + s.1)) _ rfl (fun _ => rfl) o_add ?_
    refine P_ld 66 (.int (i32 v3)) rfl (fun _ => rfl) ?_
    refine P_ld 68 (.int (i32 (cut (24 - (cut (8 * s.1)))))) rfl (fun _ => rfl) ?_
    refine P_op 69 (shr32 v3 (cut (24 - (cut (8 * s.1))))) _ rfl (fun _ => rfl) (i32_of _).symm ?_
    refine P_ld 72 (.int (i32 255)) rfl (fun _ => rfl) ?_
    refine P_op 73 (and32 (shr32 v3 (cut (24 - (cut (8 * s.1))))) 255) _ rfl (fun _ => rfl) (i32_of _).symm ?_
    refine P_iast2 (a' := [(2, upI (upI (upI (s.2.2 2) s.1 (and32 (shr32 v1 (cut (24 - (cut (8 * s.1))))) 255)) (cut (4 + s.1)) (and32 (shr32 v2 (cut (24 - (cut (8 * s.1))))) 255)) (cut (8 + s.1)) (and32 (shr32 v3 (cut (24 - (cut (8 * s.1))))) 255))]) 74 2 (upI (upI (s.2.2 2) s.1 (and32 (shr32 v1 (cut (24 - (cut (8 * s.1))))) 255)) (cut (4 + s.1)) (and32 (shr32 v2 (cut (24 - (cut (8 * s.1))))) 255)) rfl rfl rfl cut_r rfl rfl ?_
    refine P_gf 78 (.ref 191) rfl rfl rfl rfl rfl rfl ?_
    refine P_ld 80 (.int (i32 12)) rfl (fun _ => rfl) ?_
    refine P_ld 82 (.int (i32 s.1)) rfl (fun _ => rfl) ?_
    refine P_op 83 (cut (12 + s.1)) _ rfl (fun _ => rfl) o_add ?_
    refine P_ld 85 (.int (i32 v4)) rfl (fun _ => rfl) ?_
    refine P_ld 87 (.int (i32 (cut (24 - (cut (8 * s.1)))))) rfl (fun _ => rfl) ?_
    refine P_op 88 (shr32 v4 (cut (24 - (cut (8 * s.1))))) _ rfl (fun _ => rfl) (i32_of _).symm ?_
    refine P_ld 91 (.int (i32 255)) rfl (fun _ => rfl) ?_
    refine P_op 92 (and32 (shr32 v4 (cut (24 - (cut (8 * s.1))))) 255) _ rfl (fun _ => rfl) (i32_of _).symm ?_
    refine P_iast2 (a' := [(2, upI (upI (upI (upI (s.2.2 2) s.1 (and32 (shr32 v1 (cut (24 - (cut (8 * s.1))))) 255)) (cut (4 + s.1)) (and32 (shr32 v2 (cut (24 - (cut (8 * s.1))))) 255)) (cut (8 + s.1)) (and32 (shr32 v3 (cut (24 - (cut (8 * s.1))))) 255)) (cut (12 + s.1)) (and32 (shr32 v4 (cut (24 - (cut (8 * s.1))))) 255))]) 93 2 (upI (upI (upI (s.2.2 2) s.1 (and32 (shr32 v1 (cut (24 - (cut (8 * s.1))))) 255)) (cut (4 + s.1)) (and32 (shr32 v2 (cut (24 - (cut (8 * s.1))))) 255)) (cut (8 + s.1)) (and32 (shr32 v3 (cut (24 - (cut (8 * s.1))))) 255)) rfl rfl rfl cut_r rfl rfl ?_
    refine P_gf 97 (.ref 191) rfl rfl rfl rfl rfl rfl ?_
    refine P_ld 99 (.int (i32 16)) rfl (fun _ => rfl) ?_
    refine P_ld 101 (.int (i32 s.1)) rfl (fun _ => rfl) ?_
    refine P_op 102 (cut (16 + s.1)) _ rfl (fun _ => rfl) o_add ?_
    refine P_ld 104 (.int (i32 v5)) rfl (fun _ => rfl) ?_
    refine P_ld 106 (.int (i32 (cut (24 - (cut (8 * s.1)))))) rfl (fun _ => rfl) ?_
    refine P_op 107 (shr32 v5 (cut (24 - (cut (8 * s.1))))) _ rfl (fun _ => rfl) (i32_of _).symm ?_
    refine P_ld 110 (.int (i32 255)) rfl (fun _ => rfl) ?_
    refine P_op 111 (and32 (shr32 v5 (cut (24 - (cut (8 * s.1))))) 255) _ rfl (fun _ => rfl) (i32_of _).symm ?_
    refine P_iast2 (a' := [(2, upI (upI (upI (upI (upI (s.2.2 2) s.1 (and32 (shr32 v1 (cut (24 - (cut (8 * s.1))))) 255)) (cut (4 + s.1)) (and32 (shr32 v2 (cut (24 - (cut (8 * s.1))))) 255)) (cut (8 + s.1)) (and32 (shr32 v3 (cut (24 - (cut (8 * s.1))))) 255)) (cut (12 + s.1)) (and32 (shr32 v4 (cut (24 - (cut (8 * s.1))))) 255)) (cut (16 + s.1)) (and32 (shr32 v5 (cut (24 - (cut (8 * s.1))))) 255))]) 112 2 (upI (upI (upI (upI (s.2.2 2) s.1 (and32 (shr32 v1 (cut (24 - (cut (8 * s.1))))) 255)) (cut (4 + s.1)) (and32 (shr32 v2 (cut (24 - (cut (8 * s.1))))) 255)) (cut (8 + s.1)) (and32 (shr32 v3 (cut (24 - (cut (8 * s.1))))) 255)) (cut (12 + s.1)) (and32 (shr32 v4 (cut (24 - (cut (8 * s.1))))) 255)) rfl rfl rfl cut_r rfl rfl ?_
    refine P_inc 115 [(6, .int (i32 (cut (s.1 + 1)))), (7, .int (i32 (cut (24 - (cut (8 * s.1)))))), (0, .ref 189), (1, .int (i32 v1)), (2, .int (i32 v2)), (3, .int (i32 v3)), (4, .int (i32 v4)), (5, .int (i32 v5))] rfl rfl (by decide) rfl rfl ?_
    refine P_goto 8 rfl (fun _ => rfl) ?_
    refine P_some ?_
    refine P_lv (b := [(0, .ref 189), (1, .int (i32 v1)), (2, .int (i32 v2)), (3, .int (i32 v3)), (4, .int (i32 v4)), (5, .int (i32 v5)), (6, .int (i32 (cut (s.1 + 1)))), (7, .int (i32 (cut (24 - (cut (8 * s.1))))))]) rfl rfl ⟨rfl, rfl, rfl, rfl, rfl, rfl, rfl, rfl, trivial⟩ ?_
    exact H1 (cut (s.1 + 1), (mO s.2 [] [(2, upI (upI (upI (upI (upI (s.2.2 2) s.1 (and32 (shr32 v1 (cut (24 - (cut (8 * s.1))))) 255)) (cut (4 + s.1)) (and32 (shr32 v2 (cut (24 - (cut (8 * s.1))))) 255)) (cut (8 + s.1)) (and32 (shr32 v3 (cut (24 - (cut (8 * s.1))))) 255)) (cut (12 + s.1)) (and32 (shr32 v4 (cut (24 - (cut (8 * s.1))))) 255)) (cut (16 + s.1)) (and32 (shr32 v5 (cut (24 - (cut (8 * s.1))))) 255))])) (jk [(7, cut (24 - (cut (8 * s.1))))]) ⟨cut_r, (Cn_mO gm trivial ⟨(rE_ui (rE_ui (rE_ui (rE_ui (rE_ui (Cn_a gm 2) rfl t32_r) rfl t32_r) rfl t32_r) rfl t32_r) rfl t32_r), trivial⟩)⟩
def rf_feed (v1 : Int) (v2 : Int) (v3 : Int) (v4 : Int) (v5 : Int) (m : mR) : Option (Int × mR) :=
  bnd (whl (rfb_feed_8 v1 v2 v3 v4 v5) (0, (mO m [(1, 0)] []))) (fun e4 : mR =>
    some (0, e4))
theorem D_feed (w : wX) (m : mR) (c : Nat → Option am_C) (N D : Nat) (hm : Cn m) (v1 : Int) (v2 : Int) (v3 : Int) (v4 : Int) (v5 : Int) (q1 : R32 v1) (q2 : R32 v2) (q3 : R32 v3) (q4 : R32 v4) (q5 : R32 v5) : PC w D 208 [.ref 189, .int (i32 v1), .int (i32 v2), .int (i32 v3), .int (i32 v4), .int (i32 v5)] (mhp m c, N) (QS (FR0 c N) (rf_feed v1 v2 v3 v4 v5 m)) := by
  refine Pc_of (fun D bb => ?_) D
  unfold rf_feed
  show PP bb w D pm_208 (0, [(0, .ref 189), (1, .int (i32 v1)), (2, .int (i32 v2)), (3, .int (i32 v3)), (4, .int (i32 v4)), (5, .int (i32 v5))], [], (mhp (mO m [] []) c, N), 0, 0) _
  refine P_ld 1 (.ref 189) rfl (fun _ => rfl) ?_
  refine P_ld 2 (.int (i32 0)) rfl (fun _ => rfl) ?_
  refine P_pf (l' := [(1, 0)]) 5 0 rfl rfl rfl rfl rfl rfl ?_
  refine P_ld 6 (.int (i32 0)) rfl (fun _ => rfl) ?_
  refine P_sto 8 [(6, .int (i32 0)), (0, .ref 189), (1, .int (i32 v1)), (2, .int (i32 v2)), (3, .int (i32 v3)), (4, .int (i32 v4)), (5, .int (i32 v5))] rfl (fun _ => rfl) ?_
  refine P_lv (b := [(0, .ref 189), (1, .int (i32 v1)), (2, .int (i32 v2)), (3, .int (i32 v3)), (4, .int (i32 v4)), (5, .int (i32 v5)), (6, .int (i32 0)), (7, .int (i32 0))]) rfl rfl ⟨rfl, rfl, rfl, rfl, rfl, rfl, rfl, trivial⟩ ?_
  refine P_bnd ?_
  refine P_whl (fun bb Q2 H1 H2 s9 j9 hs9 => dh_feed_8 w c N D v1 v2 v3 v4 v5 q1 q2 q3 q4 q5 bb Q2 H1 H2 s9 j9 hs9) bb (fun e4 j q5 => ?_) (0, (mO m [(1, 0)] [])) (jk []) ⟨(l32 0 rfl), (Cn_mO hm ⟨(rV_i rfl (l32 0 rfl)), trivial⟩ trivial)⟩
  have q6 := q5
  show PP bb w D pm_208 (118, [(0, .ref 189), (1, .int (i32 (j 1))), (2, .int (i32 (j 2))), (3, .int (i32 (j 3))), (4, .int (i32 (j 4))), (5, .int (i32 (j 5))), (6, .int (i32 (j 6))), (7, .int (i32 (j 7)))], [], (mhp (mO e4 [] []) c, N), 0, 0) (QS _ (some (0, e4)))
  exact P_re0 rfl rfl q6
def cs_end_31 (s : Int × mR) : Prop := R32 s.1 ∧ Cn s.2
def cx_end_31 : (mR) → Prop := (fun (e : mR) => Cn e)
def hd_end_31 (c : Nat → Option am_C) (N : Nat) (v1 : Int) (s : Int × mR) (j : Nat → Int) : ag_St af_T := (31, [(0, .ref 189), (1, .int (i32 v1)), (2, .int (i32 s.1))], [], (mhp s.2 c, N), 0, 0)
def ex_end_31 (c : Nat → Option am_C) (N : Nat) (v1 : Int) : (mR) → (Nat → Int) → ag_St af_T := (fun (e : mR) (j : Nat → Int) => ((59, [(0, .ref 189), (1, .int (i32 v1)), (2, .int (i32 (j 2)))], [], (mhp e c, N), 0, 0) : ag_St af_T))
def cs_end_71 (s : Int × mR) : Prop := R32 s.1 ∧ Cn s.2
def cx_end_71 : (mR) → Prop := (fun (e : mR) => Cn e)
def hd_end_71 (c : Nat → Option am_C) (N : Nat) (s : Int × mR) (j : Nat → Int) : ag_St af_T := (71, [(0, .ref 189), (1, .int (i32 (j 1))), (2, .int (i32 s.1))], [], (mhp s.2 c, N), 0, 0)
def ex_end_71 (c : Nat → Option am_C) (N : Nat) : (mR) → (Nat → Int) → ag_St af_T := (fun (e : mR) (j : Nat → Int) => ((90, [(0, .ref 189), (1, .int (i32 (j 1))), (2, .int (i32 (j 2)))], [], (mhp e c, N), 0, 0) : ag_St af_T))
def rfl_end_90 (m : mR) : Option (Int × mR) :=
  some (m.1 5, m)
theorem dg_end_90 (w : wX) (c : Nat → Option am_C) (N D : Nat) (bb : Nat) (m : mR) (hm : Cn m) (j : Nat → Int) : PP bb w D pm_209 (90, [(0, .ref 189), (1, .int (i32 (j 1))), (2, .int (i32 (j 2)))], [], (mhp m c, N), 0, 0) (QS (FR1 c N) (rfl_end_90 m)) := by
  unfold rfl_end_90
  show PP bb w D pm_209 (90, [(0, .ref 189), (1, .int (i32 (j 1))), (2, .int (i32 (j 2)))], [], (mhp (mO m [] []) c, N), 0, 0) _
  refine P_gf 94 (.int (i32 (m.1 5))) rfl rfl rfl rfl rfl rfl ?_
  exact P_re1 rfl (Cn_i hm 5 rfl) hm
def rfb_end_71 (s : Int × mR) : Option (Sum (Int × mR) (mR)) :=
  if (20 : Int) ≤ s.1 then
    some (.inr s.2)
  else
    some (.inl (cut (s.1 + 1), (mO s.2 [] [(2, upI (s.2.2 2) s.1 0)])))
theorem dh_end_71 (w : wX) (c : Nat → Option am_C) (N D : Nat) (bb : Nat) (Q2 : Sum (Int × mR) (mR) → ag_Re af_T → Prop) (H1 : ∀ s j, cs_end_71 s → PP bb w D pm_209 (hd_end_71 c N s j) (Q2 (.inl s))) (H2 : ∀ x j, cx_end_71 x → PP bb w D pm_209 (ex_end_71 c N x j) (Q2 (.inr x))) (s : Int × mR) (j : Nat → Int) (hs : cs_end_71 s) : PP (bb + 1) w D pm_209 (hd_end_71 c N s j) (QS Q2 (rfb_end_71 s)) := by
  obtain ⟨g2, gm⟩ := hs
  unfold rfb_end_71
  show PP (bb + 1) w D pm_209 (71, [(0, .ref 189), (1, .int (i32 (j 1))), (2, .int (i32 s.1))], [], (mhp (mO s.2 [] []) c, N), 0, 0) _
  refine P1_ld 72 (.int (i32 s.1)) rfl (fun _ => rfl) ?_
  refine P_ld 74 (.int (i32 20)) rfl (fun _ => rfl) ?_
  refine P_icF 90 77 rfl rfl rfl g2 (l32 20 rfl) rfl (fun h4 => ?_) (fun h4 => ?_)
  · skip
    refine P_some ?_
    exact H2 s.2 (jk [(1, j 1), (2, s.1)]) gm
  · skip
    refine P_gf 81 (.ref 191) rfl rfl rfl rfl rfl rfl ?_
    refine P_ld 82 (.int (i32 s.1)) rfl (fun _ => rfl) ?_
    refine P_ld 83 (.int (i32 0)) rfl (fun _ => rfl) ?_
    refine P_iast2 (a' := [(2, upI (s.2.2 2) s.1 0)]) 84 2 (s.2.2 2) rfl rfl rfl g2 rfl rfl ?_
    refine P_inc 87 [(2, .int (i32 (cut (s.1 + 1)))), (0, .ref 189), (1, .int (i32 (j 1)))] rfl rfl (by decide) rfl rfl ?_
    refine P_goto 71 rfl (fun _ => rfl) ?_
    refine P_some ?_
    refine P_lv (b := [(0, .ref 189), (1, .int (i32 (j 1))), (2, .int (i32 (cut (s.1 + 1))))]) rfl rfl ⟨rfl, rfl, rfl, trivial⟩ ?_
    exact H1 (cut (s.1 + 1), (mO s.2 [] [(2, upI (s.2.2 2) s.1 0)])) (jk [(1, j 1)]) ⟨cut_r, (Cn_mO gm trivial ⟨(rE_ui (Cn_a gm 2) rfl (l32 0 rfl)), trivial⟩)⟩
def rfl_end_59 (v1 : Int) (m : mR) : Option (Int × mR) :=
  bnd (whl rfb_end_71 (0, (mO m [(5, cut ((m.1 5) + v1))] []))) (fun e5 : mR =>
    rfl_end_90 e5)
theorem dg_end_59 (w : wX) (c : Nat → Option am_C) (N D : Nat) (bb : Nat) (v1 : Int) (q1 : R32 v1) (m : mR) (hm : Cn m) (j : Nat → Int) : PP bb w D pm_209 (59, [(0, .ref 189), (1, .int (i32 v1)), (2, .int (i32 (j 2)))], [], (mhp m c, N), 0, 0) (QS (FR1 c N) (rfl_end_59 v1 m)) := by
  unfold rfl_end_59
  show PP bb w D pm_209 (59, [(0, .ref 189), (1, .int (i32 v1)), (2, .int (i32 (j 2)))], [], (mhp (mO m [] []) c, N), 0, 0) _
  refine P_ld 60 (.ref 189) rfl (fun _ => rfl) ?_
  refine P_ld 61 (.ref 189) rfl (fun _ => rfl) ?_
  refine P_gf1 64 (.int (i32 (m.1 5))) rfl rfl rfl rfl ?_
  refine P_ld 65 (.int (i32 v1)) rfl (fun _ => rfl) ?_
  refine P_op 66 (cut ((m.1 5) + v1)) _ rfl (fun _ => rfl) o_add ?_
  refine P_pf (l' := [(5, cut ((m.1 5) + v1))]) 69 (cut ((m.1 5) + v1)) rfl rfl rfl rfl rfl rfl ?_
  refine P_ld 70 (.int (i32 0)) rfl (fun _ => rfl) ?_
  refine P_sto 71 [(2, .int (i32 0)), (0, .ref 189), (1, .int (i32 v1))] rfl (fun _ => rfl) ?_
  refine P_lv (b := [(0, .ref 189), (1, .int (i32 v1)), (2, .int (i32 0))]) rfl rfl ⟨rfl, rfl, rfl, trivial⟩ ?_
  refine P_bnd ?_
  refine P_whl (fun bb Q2 H1 H2 s9 j9 hs9 => dh_end_71 w c N D bb Q2 H1 H2 s9 j9 hs9) bb (fun e5 j q6 => ?_) (0, (mO m [(5, cut ((m.1 5) + v1))] [])) (jk [(1, v1)]) ⟨(l32 0 rfl), (Cn_mO hm ⟨(rV_i rfl cut_r), trivial⟩ trivial)⟩
  have q7 := q6
  show PP bb w D pm_209 (90, [(0, .ref 189), (1, .int (i32 (j 1))), (2, .int (i32 (j 2)))], [], (mhp (mO e5 [] []) c, N), 0, 0) (QS _ (rfl_end_90 e5))
  exact dg_end_90 w c N D bb e5 q7 (jk [(1, j 1), (2, j 2)])
def rfb_end_31 (v1 : Int) (s : Int × mR) : Option (Sum (Int × mR) (mR)) :=
  if v1 ≤ s.1 then
    some (.inr s.2)
  else
    some (.inl (cut (s.1 + 1), (mO s.2 [] [(3, upI (s.2.2 3) (cut ((s.2.1 5) + s.1)) ((s.2.2 2) s.1))])))
theorem dh_end_31 (w : wX) (c : Nat → Option am_C) (N D : Nat) (v1 : Int) (q1 : R32 v1) (bb : Nat) (Q2 : Sum (Int × mR) (mR) → ag_Re af_T → Prop) (H1 : ∀ s j, cs_end_31 s → PP bb w D pm_209 (hd_end_31 c N v1 s j) (Q2 (.inl s))) (H2 : ∀ x j, cx_end_31 x → PP bb w D pm_209 (ex_end_31 c N v1 x j) (Q2 (.inr x))) (s : Int × mR) (j : Nat → Int) (hs : cs_end_31 s) : PP (bb + 1) w D pm_209 (hd_end_31 c N v1 s j) (QS Q2 (rfb_end_31 v1 s)) := by
  obtain ⟨g2, gm⟩ := hs
  unfold rfb_end_31
  show PP (bb + 1) w D pm_209 (31, [(0, .ref 189), (1, .int (i32 v1)), (2, .int (i32 s.1))], [], (mhp (mO s.2 [] []) c, N), 0, 0) _
  refine P1_ld 32 (.int (i32 s.1)) rfl (fun _ => rfl) ?_
  refine P_ld 33 (.int (i32 v1)) rfl (fun _ => rfl) ?_
  refine P_icF 59 36 rfl rfl rfl g2 q1 rfl (fun h9 => ?_) (fun h9 => ?_)
  · skip
    refine P_some ?_
    exact H2 s.2 (jk [(2, s.1)]) gm
  · skip
    refine P_gf 40 (.ref 192) rfl rfl rfl rfl rfl rfl ?_
    refine P_gf 44 (.int (i32 (s.2.1 5))) rfl rfl rfl rfl rfl rfl ?_
    refine P_ld 45 (.int (i32 s.1)) rfl (fun _ => rfl) ?_
    refine P_op 46 (cut ((s.2.1 5) + s.1)) _ rfl (fun _ => rfl) o_add ?_
    refine P_gf 50 (.ref 191) rfl rfl rfl rfl rfl rfl ?_
    refine P_ld 51 (.int (i32 s.1)) rfl (fun _ => rfl) ?_
    refine P_iald2 52 2 (s.2.2 2) rfl rfl rfl g2 rfl ?_
    refine P_iast2 (a' := [(3, upI (s.2.2 3) (cut ((s.2.1 5) + s.1)) ((s.2.2 2) s.1))]) 53 3 (s.2.2 3) rfl rfl rfl cut_r rfl rfl ?_
    refine P_inc 56 [(2, .int (i32 (cut (s.1 + 1)))), (0, .ref 189), (1, .int (i32 v1))] rfl rfl (by decide) rfl rfl ?_
    refine P_goto 31 rfl (fun _ => rfl) ?_
    refine P_some ?_
    refine P_lv (b := [(0, .ref 189), (1, .int (i32 v1)), (2, .int (i32 (cut (s.1 + 1))))]) rfl rfl ⟨rfl, rfl, rfl, trivial⟩ ?_
    exact H1 (cut (s.1 + 1), (mO s.2 [] [(3, upI (s.2.2 3) (cut ((s.2.1 5) + s.1)) ((s.2.2 2) s.1))])) (jk []) ⟨cut_r, (Cn_mO gm trivial ⟨(rE_ui (Cn_a gm 3) rfl (rE_i (Cn_a gm 2) rfl _)), trivial⟩)⟩
def rf_end (v1 : Int) (m : mR) : Option (Int × mR) :=
  if v1 < 0 then
    some ((-1), (mO m [(1, 0)] []))
  else
    if (20 : Int) < v1 then
      some ((-1), (mO m [(1, 0)] []))
    else
      if cut ((m.1 5) + v1) ≤ 4000 then
        bnd (whl (rfb_end_31 v1) (0, (mO m [(1, 0)] []))) (fun e13 : mR =>
          rfl_end_59 v1 e13)
      else
        some ((-1), (mO m [(1, 0)] []))
theorem D_end (w : wX) (m : mR) (c : Nat → Option am_C) (N D : Nat) (hm : Cn m) (v1 : Int) (q1 : R32 v1) : PC w D 209 [.ref 189, .int (i32 v1)] (mhp m c, N) (QS (FR1 c N) (rf_end v1 m)) := by
  refine Pc_of (fun D bb => ?_) D
  unfold rf_end
  show PP bb w D pm_209 (0, [(0, .ref 189), (1, .int (i32 v1))], [], (mhp (mO m [] []) c, N), 0, 0) _
  refine P_ld 1 (.ref 189) rfl (fun _ => rfl) ?_
  refine P_ld 2 (.int (i32 0)) rfl (fun _ => rfl) ?_
  refine P_pf (l' := [(1, 0)]) 5 0 rfl rfl rfl rfl rfl rfl ?_
  refine P_ld 6 (.int (i32 v1)) rfl (fun _ => rfl) ?_
  refine P_ifF 27 9 rfl rfl rfl q1 rfl (fun h10 => ?_) (fun h10 => ?_)
  · skip
    refine P_ld 28 (.int (i32 (-1))) rfl (fun _ => rfl) ?_
    exact P_re1 rfl (l32 (-1) rfl) (Cn_mO hm ⟨(rV_i rfl (l32 0 rfl)), trivial⟩ trivial)
  · skip
    refine P_ld 10 (.int (i32 v1)) rfl (fun _ => rfl) ?_
    refine P_ld 12 (.int (i32 20)) rfl (fun _ => rfl) ?_
    refine P_icF 27 15 rfl rfl rfl q1 (l32 20 rfl) rfl (fun h11 => ?_) (fun h11 => ?_)
    · skip
      refine P_ld 28 (.int (i32 (-1))) rfl (fun _ => rfl) ?_
      exact P_re1 rfl (l32 (-1) rfl) (Cn_mO hm ⟨(rV_i rfl (l32 0 rfl)), trivial⟩ trivial)
    · skip
      refine P_gf 19 (.int (i32 (m.1 5))) rfl rfl rfl rfl rfl rfl ?_
      refine P_ld 20 (.int (i32 v1)) rfl (fun _ => rfl) ?_
      refine P_op 21 (cut ((m.1 5) + v1)) _ rfl (fun _ => rfl) o_add ?_
      refine P_ld 24 (.int (i32 4000)) rfl (fun _ => rfl) ?_
      refine P_icF 29 27 rfl rfl rfl cut_r (l32 4000 rfl) rfl (fun h12 => ?_) (fun h12 => ?_)
      · skip
        refine P_ld 30 (.int (i32 0)) rfl (fun _ => rfl) ?_
        refine P_sto 31 [(2, .int (i32 0)), (0, .ref 189), (1, .int (i32 v1))] rfl (fun _ => rfl) ?_
        refine P_lv (b := [(0, .ref 189), (1, .int (i32 v1)), (2, .int (i32 0))]) rfl rfl ⟨rfl, rfl, rfl, trivial⟩ ?_
        refine P_bnd ?_
        refine P_whl (fun bb Q2 H1 H2 s9 j9 hs9 => dh_end_31 w c N D v1 q1 bb Q2 H1 H2 s9 j9 hs9) bb (fun e13 j q14 => ?_) (0, (mO m [(1, 0)] [])) (jk []) ⟨(l32 0 rfl), (Cn_mO hm ⟨(rV_i rfl (l32 0 rfl)), trivial⟩ trivial)⟩
        have q15 := q14
        show PP bb w D pm_209 (59, [(0, .ref 189), (1, .int (i32 v1)), (2, .int (i32 (j 2)))], [], (mhp (mO e13 [] []) c, N), 0, 0) (QS _ (rfl_end_59 v1 e13))
        exact dg_end_59 w c N D bb v1 q1 e13 q15 (jk [(2, j 2)])
      · skip
        refine P_ld 28 (.int (i32 (-1))) rfl (fun _ => rfl) ?_
        exact P_re1 rfl (l32 (-1) rfl) (Cn_mO hm ⟨(rV_i rfl (l32 0 rfl)), trivial⟩ trivial)
def cs_size_108 (s : Int × Int) : Prop := R32 s.1 ∧ R32 s.2
def cx_size_108 : (Int) → Prop := (fun (e : Int) => R32 e)
def hd_size_108 (c : Nat → Option am_C) (N : Nat) (m : mR) (s : Int × Int) (j : Nat → Int) : ag_St af_T := (108, [(0, .ref 189), (1, .int (i32 (j 1))), (2, .int (i32 s.1)), (3, .int (i32 s.2))], [], (mhp m c, N), 0, 0)
def ex_size_108 (c : Nat → Option am_C) (N : Nat) (m : mR) : (Int) → (Nat → Int) → ag_St af_T := (fun (e : Int) (j : Nat → Int) => ((136, [(0, .ref 189), (1, .int (i32 (j 1))), (2, .int (i32 e)), (3, .int (i32 (j 3)))], [], (mhp m c, N), 0, 0) : ag_St af_T))
def rfb_size_108 (m : mR) (s : Int × Int) : Option (Sum (Int × Int) (Int)) :=
  if m.1 20 ≤ s.2 then
    some (.inr s.1)
  else
    some (.inl (cut (s.1 + ((m.2 30) ((m.2 34) s.2))), cut (s.2 + 1)))
theorem dh_size_108 (w : wX) (c : Nat → Option am_C) (N D : Nat) (m : mR) (hm : Cn m) (bb : Nat) (Q2 : Sum (Int × Int) (Int) → ag_Re af_T → Prop) (H1 : ∀ s j, cs_size_108 s → PP bb w D pm_288 (hd_size_108 c N m s j) (Q2 (.inl s))) (H2 : ∀ x j, cx_size_108 x → PP bb w D pm_288 (ex_size_108 c N m x j) (Q2 (.inr x))) (s : Int × Int) (j : Nat → Int) (hs : cs_size_108 s) : PP (bb + 1) w D pm_288 (hd_size_108 c N m s j) (QS Q2 (rfb_size_108 m s)) := by
  obtain ⟨g2, g3⟩ := hs
  unfold rfb_size_108
  show PP (bb + 1) w D pm_288 (108, [(0, .ref 189), (1, .int (i32 (j 1))), (2, .int (i32 s.1)), (3, .int (i32 s.2))], [], (mhp (mO m [] []) c, N), 0, 0) _
  refine P1_ld 109 (.int (i32 s.2)) rfl (fun _ => rfl) ?_
  refine P_gf 113 (.int (i32 (m.1 20))) rfl rfl rfl rfl rfl rfl ?_
  refine P_icF 136 116 rfl rfl rfl g3 (Cn_i hm 20 rfl) rfl (fun h3 => ?_) (fun h3 => ?_)
  · skip
    refine P_some ?_
    exact H2 s.1 (jk [(1, j 1), (3, s.2)]) g2
  · skip
    refine P_ld 117 (.int (i32 s.1)) rfl (fun _ => rfl) ?_
    refine P_gf 121 (.ref 200) rfl rfl rfl rfl rfl rfl ?_
    refine P_gf 125 (.ref 204) rfl rfl rfl rfl rfl rfl ?_
    refine P_ld 126 (.int (i32 s.2)) rfl (fun _ => rfl) ?_
    refine P_iald2 127 34 (m.2 34) rfl rfl rfl g3 rfl ?_
    refine P_iald2 128 30 (m.2 30) rfl rfl rfl (rE_i (Cn_a hm 34) rfl _) rfl ?_
    refine P_op 129 (cut (s.1 + ((m.2 30) ((m.2 34) s.2)))) _ rfl (fun _ => rfl) o_add ?_
    refine P_sto 130 [(2, .int (i32 (cut (s.1 + ((m.2 30) ((m.2 34) s.2)))))), (0, .ref 189), (1, .int (i32 (j 1))), (3, .int (i32 s.2))] rfl (fun _ => rfl) ?_
    refine P_inc 133 [(3, .int (i32 (cut (s.2 + 1)))), (2, .int (i32 (cut (s.1 + ((m.2 30) ((m.2 34) s.2)))))), (0, .ref 189), (1, .int (i32 (j 1)))] rfl rfl (by decide) rfl rfl ?_
    refine P_goto 108 rfl (fun _ => rfl) ?_
    refine P_some ?_
    refine P_lv (b := [(0, .ref 189), (1, .int (i32 (j 1))), (2, .int (i32 (cut (s.1 + ((m.2 30) ((m.2 34) s.2)))))), (3, .int (i32 (cut (s.2 + 1))))]) rfl rfl ⟨rfl, rfl, rfl, rfl, trivial⟩ ?_
    exact H1 (cut (s.1 + ((m.2 30) ((m.2 34) s.2))), cut (s.2 + 1)) (jk [(1, j 1)]) ⟨cut_r, cut_r⟩
def rf_size (v1 : Int) (m : mR) : Option (Int × mR) :=
  if m.1 127 = 0 then
    some ((-1), (mO m [(1, 0)] []))
  else
    if v1 = 0 then
      some (m.1 19, (mO m [(1, 0)] []))
    else
      if v1 = 1 then
        some (m.1 20, (mO m [(1, 0)] []))
      else
        if v1 = 2 then
          some (m.1 21, (mO m [(1, 0)] []))
        else
          if v1 = 3 then
            some (m.1 22, (mO m [(1, 0)] []))
          else
            if v1 = 4 then
              some (m.1 24, (mO m [(1, 0)] []))
            else
              if v1 = 5 then
                some (m.1 25, (mO m [(1, 0)] []))
              else
                if v1 = 6 then
                  some (m.1 26, (mO m [(1, 0)] []))
                else
                  if v1 = 7 then
                    some (m.1 27, (mO m [(1, 0)] []))
                  else
                    if v1 = 8 then
                      bnd (whl (rfb_size_108 (mO m [(1, 0)] [])) (0, 0)) (fun e14 : Int =>
                        some (e14, (mO m [(1, 0)] [])))
                    else
                      some ((-1), (mO m [(1, 0)] []))
theorem D_size (w : wX) (m : mR) (c : Nat → Option am_C) (N D : Nat) (hm : Cn m) (v1 : Int) (q1 : R32 v1) : PC w D 288 [.ref 189, .int (i32 v1)] (mhp m c, N) (QS (FR1 c N) (rf_size v1 m)) := by
  refine Pc_of (fun D bb => ?_) D
  unfold rf_size
  show PP bb w D pm_288 (0, [(0, .ref 189), (1, .int (i32 v1))], [], (mhp (mO m [] []) c, N), 0, 0) _
  refine P_ld 1 (.ref 189) rfl (fun _ => rfl) ?_
  refine P_ld 2 (.int (i32 0)) rfl (fun _ => rfl) ?_
  refine P_pf (l' := [(1, 0)]) 5 0 rfl rfl rfl rfl rfl rfl ?_
  refine P_gf 9 (.int (i32 (m.1 127))) rfl rfl rfl rfl rfl rfl ?_
  refine P_ifE 14 12 rfl rfl rfl (Cn_i hm 127 rfl) rfl (fun h4 => ?_) (fun h4 => ?_)
  · skip
    refine P_ld 13 (.int (i32 (-1))) rfl (fun _ => rfl) ?_
    exact P_re1 rfl (l32 (-1) rfl) (Cn_mO hm ⟨(rV_i rfl (l32 0 rfl)), trivial⟩ trivial)
  · skip
    refine P_ld 15 (.int (i32 v1)) rfl (fun _ => rfl) ?_
    refine P_cs (fun h5 => ?_) (fun h5 => ?_)
    · skip
      refine P_cast 0 h5 ?_
      refine P_pop 64 rfl (fun _ => rfl) ?_
      refine P_gf 68 (.int (i32 (m.1 19))) rfl rfl rfl rfl rfl rfl ?_
      exact P_re1 rfl (Cn_i hm 19 rfl) (Cn_mO hm ⟨(rV_i rfl (l32 0 rfl)), trivial⟩ trivial)
    · skip
      refine P_cs (fun h6 => ?_) (fun h6 => ?_)
      · skip
        refine P_cast 1 h6 ?_
        refine P_pop 69 rfl (fun _ => rfl) ?_
        refine P_gf 73 (.int (i32 (m.1 20))) rfl rfl rfl rfl rfl rfl ?_
        exact P_re1 rfl (Cn_i hm 20 rfl) (Cn_mO hm ⟨(rV_i rfl (l32 0 rfl)), trivial⟩ trivial)
      · skip
        refine P_cs (fun h7 => ?_) (fun h7 => ?_)
        · skip
          refine P_cast 2 h7 ?_
          refine P_pop 74 rfl (fun _ => rfl) ?_
          refine P_gf 78 (.int (i32 (m.1 21))) rfl rfl rfl rfl rfl rfl ?_
          exact P_re1 rfl (Cn_i hm 21 rfl) (Cn_mO hm ⟨(rV_i rfl (l32 0 rfl)), trivial⟩ trivial)
        · skip
          refine P_cs (fun h8 => ?_) (fun h8 => ?_)
          · skip
            refine P_cast 3 h8 ?_
            refine P_pop 79 rfl (fun _ => rfl) ?_
            refine P_gf 83 (.int (i32 (m.1 22))) rfl rfl rfl rfl rfl rfl ?_
            exact P_re1 rfl (Cn_i hm 22 rfl) (Cn_mO hm ⟨(rV_i rfl (l32 0 rfl)), trivial⟩ trivial)
          · skip
            refine P_cs (fun h9 => ?_) (fun h9 => ?_)
            · skip
              refine P_cast 4 h9 ?_
              refine P_pop 84 rfl (fun _ => rfl) ?_
              refine P_gf 88 (.int (i32 (m.1 24))) rfl rfl rfl rfl rfl rfl ?_
              exact P_re1 rfl (Cn_i hm 24 rfl) (Cn_mO hm ⟨(rV_i rfl (l32 0 rfl)), trivial⟩ trivial)
            · skip
              refine P_cs (fun h10 => ?_) (fun h10 => ?_)
              · skip
                refine P_cast 5 h10 ?_
                refine P_pop 89 rfl (fun _ => rfl) ?_
                refine P_gf 93 (.int (i32 (m.1 25))) rfl rfl rfl rfl rfl rfl ?_
                exact P_re1 rfl (Cn_i hm 25 rfl) (Cn_mO hm ⟨(rV_i rfl (l32 0 rfl)), trivial⟩ trivial)
              · skip
                refine P_cs (fun h11 => ?_) (fun h11 => ?_)
                · skip
                  refine P_cast 6 h11 ?_
                  refine P_pop 94 rfl (fun _ => rfl) ?_
                  refine P_gf 98 (.int (i32 (m.1 26))) rfl rfl rfl rfl rfl rfl ?_
                  exact P_re1 rfl (Cn_i hm 26 rfl) (Cn_mO hm ⟨(rV_i rfl (l32 0 rfl)), trivial⟩ trivial)
                · skip
                  refine P_cs (fun h12 => ?_) (fun h12 => ?_)
                  · skip
                    refine P_cast 7 h12 ?_
                    refine P_pop 99 rfl (fun _ => rfl) ?_
                    refine P_gf 103 (.int (i32 (m.1 27))) rfl rfl rfl rfl rfl rfl ?_
                    exact P_re1 rfl (Cn_i hm 27 rfl) (Cn_mO hm ⟨(rV_i rfl (l32 0 rfl)), trivial⟩ trivial)
                  · skip
                    refine P_cs (fun h13 => ?_) (fun h13 => ?_)
                    · skip
                      refine P_cast 8 h13 ?_
                      refine P_pop 104 rfl (fun _ => rfl) ?_
                      refine P_ld 105 (.int (i32 0)) rfl (fun _ => rfl) ?_
                      refine P_sto 106 [(2, .int (i32 0)), (0, .ref 189), (1, .int (i32 v1))] rfl (fun _ => rfl) ?_
                      refine P_ld 107 (.int (i32 0)) rfl (fun _ => rfl) ?_
                      refine P_sto 108 [(3, .int (i32 0)), (2, .int (i32 0)), (0, .ref 189), (1, .int (i32 v1))] rfl (fun _ => rfl) ?_
                      refine P_lv (b := [(0, .ref 189), (1, .int (i32 v1)), (2, .int (i32 0)), (3, .int (i32 0))]) rfl rfl ⟨rfl, rfl, rfl, rfl, trivial⟩ ?_
                      refine P_bnd ?_
                      refine P_whl (fun bb Q2 H1 H2 s9 j9 hs9 => dh_size_108 w c N D (mO m [(1, 0)] []) (Cn_mO hm ⟨(rV_i rfl (l32 0 rfl)), trivial⟩ trivial) bb Q2 H1 H2 s9 j9 hs9) bb (fun e14 j q15 => ?_) (0, 0) (jk [(1, v1)]) ⟨(l32 0 rfl), (l32 0 rfl)⟩
                      have q16 := q15
                      show PP bb w D pm_288 (136, [(0, .ref 189), (1, .int (i32 (j 1))), (2, .int (i32 e14)), (3, .int (i32 (j 3)))], [], (mhp (mO m [(1, 0)] []) c, N), 0, 0) (QS _ (some (e14, (mO m [(1, 0)] []))))
                      refine P_ld 137 (.int (i32 e14)) rfl (fun _ => rfl) ?_
                      exact P_re1 rfl q16 (Cn_mO hm ⟨(rV_i rfl (l32 0 rfl)), trivial⟩ trivial)
                    · skip
                      refine P_tsd 138 rfl rfl q1 (by omega) ?_
                      refine P_ld 139 (.int (i32 (-1))) rfl (fun _ => rfl) ?_
                      exact P_re1 rfl (l32 (-1) rfl) (Cn_mO hm ⟨(rV_i rfl (l32 0 rfl)), trivial⟩ trivial)
def rf_homeless (m : mR) : Option (Int × mR) :=
  some (m.1 130, (mO m [(1, 0)] []))
theorem D_homeless (w : wX) (m : mR) (c : Nat → Option am_C) (N D : Nat) (hm : Cn m) : PC w D 303 [.ref 189] (mhp m c, N) (QS (FR1 c N) (rf_homeless m)) := by
  refine Pc_of (fun D bb => ?_) D
  unfold rf_homeless
  show PP bb w D pm_303 (0, [(0, .ref 189)], [], (mhp (mO m [] []) c, N), 0, 0) _
  refine P_ld 1 (.ref 189) rfl (fun _ => rfl) ?_
  refine P_ld 2 (.int (i32 0)) rfl (fun _ => rfl) ?_
  refine P_pf (l' := [(1, 0)]) 5 0 rfl rfl rfl rfl rfl rfl ?_
  refine P_gf 9 (.int (i32 (m.1 130))) rfl rfl rfl rfl rfl rfl ?_
  exact P_re1 rfl (Cn_i hm 130 rfl) (Cn_mO hm ⟨(rV_i rfl (l32 0 rfl)), trivial⟩ trivial)
def rfl_in_14 (u0 : Int) : Option Int :=
  some u0
theorem dg_in_14 (w : wX) (t : af_T) (D : Nat) (bb : Nat) (u0 : Int) (r0 : R32 u0) (j : Nat → Int) : PP bb w D pm_305 (14, [(0, .int (i32 (j 0))), (1, .int (i32 (j 1)))], [.int (i32 u0)], t, 0, 0) (QS (FP1 t) (rfl_in_14 u0)) := by
  unfold rfl_in_14
  exact P_rp1 rfl r0
def rf_in (v0 : Int) (v1 : Int) : Option Int :=
  if v0 < 0 then
    rfl_in_14 0
  else
    if v1 ≤ v0 then
      rfl_in_14 0
    else
      rfl_in_14 1
theorem D_in (w : wX) (t : af_T) (D : Nat) (v0 : Int) (v1 : Int) (q0 : R32 v0) (q1 : R32 v1) : PC w D 305 [.int (i32 v0), .int (i32 v1)] t (QS (FP1 t) (rf_in v0 v1)) := by
  refine Pc_of (fun D bb => ?_) D
  unfold rf_in
  show PP bb w D pm_305 (0, [(0, .int (i32 v0)), (1, .int (i32 v1))], [], t, 0, 0) _
  refine P_ld 1 (.int (i32 v0)) rfl (fun _ => rfl) ?_
  refine P_ifF 13 4 rfl rfl rfl q0 rfl (fun h1 => ?_) (fun h1 => ?_)
  · skip
    refine P_ld 14 (.int (i32 0)) rfl (fun _ => rfl) ?_
    exact dg_in_14 w t D bb 0 (l32 0 rfl) (jk [(0, v0), (1, v1)])
  · skip
    refine P_ld 5 (.int (i32 v0)) rfl (fun _ => rfl) ?_
    refine P_ld 6 (.int (i32 v1)) rfl (fun _ => rfl) ?_
    refine P_icF 13 9 rfl rfl rfl q0 q1 rfl (fun h2 => ?_) (fun h2 => ?_)
    · skip
      refine P_ld 14 (.int (i32 0)) rfl (fun _ => rfl) ?_
      exact dg_in_14 w t D bb 0 (l32 0 rfl) (jk [(0, v0), (1, v1)])
    · skip
      refine P_ld 10 (.int (i32 1)) rfl (fun _ => rfl) ?_
      refine P_goto 14 rfl (fun _ => rfl) ?_
      exact dg_in_14 w t D bb 1 (l32 1 rfl) (jk [(0, v0), (1, v1)])
def rfl_step_78 (u0 : Int) (m : mR) : Option (Int × mR) :=
  some (u0, m)
theorem dg_step_78 (w : wX) (c : Nat → Option am_C) (N D : Nat) (bb : Nat) (u0 : Int) (r0 : R32 u0) (m : mR) (hm : Cn m) (j : Nat → Int) : PP bb w D pm_304 (78, [(0, .ref 189), (1, .int (i32 (j 1))), (2, .int (i32 (j 2)))], [.int (i32 u0)], (mhp m c, N), 0, 0) (QS (FR1 c N) (rfl_step_78 u0 m)) := by
  unfold rfl_step_78
  show PP bb w D pm_304 (78, [(0, .ref 189), (1, .int (i32 (j 1))), (2, .int (i32 (j 2)))], [.int (i32 u0)], (mhp (mO m [] []) c, N), 0, 0) _
  exact P_re1 rfl r0 hm
def rf_step (v1 : Int) (v2 : Int) (m : mR) : Option (Int × mR) :=
  if m.1 127 = 0 then
    some ((-1), (mO m [(1, 0)] []))
  else
    bnd (rf_in v1 (m.1 27)) fun y2 =>
    if y2 = 0 then
      some ((-1), (mO m [(1, 0)] []))
    else
      if v2 = 0 then
        rfl_step_78 ((m.2 60) v1) (mO m [(1, 0)] [])
      else
        if v2 = 1 then
          if m.1 128 = 0 then
            rfl_step_78 (-1) (mO m [(1, 0)] [])
          else
            rfl_step_78 ((m.2 131) v1) (mO m [(1, 0)] [])
        else
          if v2 = 2 then
            rfl_step_78 ((m.2 63) v1) (mO m [(1, 0)] [])
          else
            rfl_step_78 (-1) (mO m [(1, 0)] [])
theorem D_step (w : wX) (m : mR) (c : Nat → Option am_C) (N D : Nat) (hm : Cn m) (v1 : Int) (v2 : Int) (q1 : R32 v1) (q2 : R32 v2) : PC w D 304 [.ref 189, .int (i32 v1), .int (i32 v2)] (mhp m c, N) (QS (FR1 c N) (rf_step v1 v2 m)) := by
  refine Pc_of (fun D bb => ?_) D
  unfold rf_step
  show PP bb w D pm_304 (0, [(0, .ref 189), (1, .int (i32 v1)), (2, .int (i32 v2))], [], (mhp (mO m [] []) c, N), 0, 0) _
  refine P_ld 1 (.ref 189) rfl (fun _ => rfl) ?_
  refine P_ld 2 (.int (i32 0)) rfl (fun _ => rfl) ?_
  refine P_pf (l' := [(1, 0)]) 5 0 rfl rfl rfl rfl rfl rfl ?_
  refine P_gf 9 (.int (i32 (m.1 127))) rfl rfl rfl rfl rfl rfl ?_
  refine P_ifF 23 12 rfl rfl rfl (Cn_i hm 127 rfl) rfl (fun h1 => ?_) (fun h1 => ?_)
  · skip
    refine P_ld 24 (.int (i32 (-1))) rfl (fun _ => rfl) ?_
    exact P_re1 rfl (l32 (-1) rfl) (Cn_mO hm ⟨(rV_i rfl (l32 0 rfl)), trivial⟩ trivial)
  · skip
    refine P_ld 13 (.int (i32 v1)) rfl (fun _ => rfl) ?_
    refine P_gf 17 (.int (i32 (m.1 27))) rfl rfl rfl rfl rfl rfl ?_
    refine P_cp1 20 305 [.int (i32 v1), .int (i32 (m.1 27))] [] rfl (fun _ => rfl) rfl (D_in w _ D v1 (m.1 27) q1 (Cn_i hm 27 rfl)) (fun y2 h3 => ?_)
    refine P_ifE 25 23 rfl rfl rfl h3 rfl (fun h4 => ?_) (fun h4 => ?_)
    · skip
      refine P_ld 24 (.int (i32 (-1))) rfl (fun _ => rfl) ?_
      exact P_re1 rfl (l32 (-1) rfl) (Cn_mO hm ⟨(rV_i rfl (l32 0 rfl)), trivial⟩ trivial)
    · skip
      refine P_ld 26 (.int (i32 v2)) rfl (fun _ => rfl) ?_
      refine P_ifE 38 29 rfl rfl rfl q2 rfl (fun h5 => ?_) (fun h5 => ?_)
      · skip
        refine P_gf 33 (.ref 230) rfl rfl rfl rfl rfl rfl ?_
        refine P_ld 34 (.int (i32 v1)) rfl (fun _ => rfl) ?_
        refine P_iald2 35 60 (m.2 60) rfl rfl rfl q1 rfl ?_
        refine P_goto 78 rfl (fun _ => rfl) ?_
        exact dg_step_78 w c N D bb ((m.2 60) v1) (rE_i (Cn_a hm 60) rfl _) (mO m [(1, 0)] []) (Cn_mO hm ⟨(rV_i rfl (l32 0 rfl)), trivial⟩ trivial) (jk [(1, v1), (2, v2)])
      · skip
        refine P_ld 39 (.int (i32 v2)) rfl (fun _ => rfl) ?_
        refine P_ld 40 (.int (i32 1)) rfl (fun _ => rfl) ?_
        refine P_icE 63 43 rfl rfl rfl q2 (l32 1 rfl) rfl (fun h6 => ?_) (fun h6 => ?_)
        · skip
          refine P_gf 47 (.int (i32 (m.1 128))) rfl rfl rfl rfl rfl rfl ?_
          refine P_ifF 59 50 rfl rfl rfl (Cn_i hm 128 rfl) rfl (fun h8 => ?_) (fun h8 => ?_)
          · skip
            refine P_ld 60 (.int (i32 (-1))) rfl (fun _ => rfl) ?_
            refine P_goto 78 rfl (fun _ => rfl) ?_
            exact dg_step_78 w c N D bb (-1) (l32 (-1) rfl) (mO m [(1, 0)] []) (Cn_mO hm ⟨(rV_i rfl (l32 0 rfl)), trivial⟩ trivial) (jk [(1, v1), (2, v2)])
          · skip
            refine P_gf 54 (.ref 285) rfl rfl rfl rfl rfl rfl ?_
            refine P_ld 55 (.int (i32 v1)) rfl (fun _ => rfl) ?_
            refine P_iald2 56 131 (m.2 131) rfl rfl rfl q1 rfl ?_
            refine P_goto 78 rfl (fun _ => rfl) ?_
            exact dg_step_78 w c N D bb ((m.2 131) v1) (rE_i (Cn_a hm 131) rfl _) (mO m [(1, 0)] []) (Cn_mO hm ⟨(rV_i rfl (l32 0 rfl)), trivial⟩ trivial) (jk [(1, v1), (2, v2)])
        · skip
          refine P_ld 64 (.int (i32 v2)) rfl (fun _ => rfl) ?_
          refine P_ld 65 (.int (i32 2)) rfl (fun _ => rfl) ?_
          refine P_icE 77 68 rfl rfl rfl q2 (l32 2 rfl) rfl (fun h7 => ?_) (fun h7 => ?_)
          · skip
            refine P_gf 72 (.ref 233) rfl rfl rfl rfl rfl rfl ?_
            refine P_ld 73 (.int (i32 v1)) rfl (fun _ => rfl) ?_
            refine P_iald2 74 63 (m.2 63) rfl rfl rfl q1 rfl ?_
            refine P_goto 78 rfl (fun _ => rfl) ?_
            exact dg_step_78 w c N D bb ((m.2 63) v1) (rE_i (Cn_a hm 63) rfl _) (mO m [(1, 0)] []) (Cn_mO hm ⟨(rV_i rfl (l32 0 rfl)), trivial⟩ trivial) (jk [(1, v1), (2, v2)])
          · skip
            refine P_ld 78 (.int (i32 (-1))) rfl (fun _ => rfl) ?_
            exact dg_step_78 w c N D bb (-1) (l32 (-1) rfl) (mO m [(1, 0)] []) (Cn_mO hm ⟨(rV_i rfl (l32 0 rfl)), trivial⟩ trivial) (jk [(1, v1), (2, v2)])
def rfl_stage_69 (u0 : Int) (m : mR) : Option (Int × mR) :=
  some (u0, m)
theorem dg_stage_69 (w : wX) (c : Nat → Option am_C) (N D : Nat) (bb : Nat) (u0 : Int) (r0 : R32 u0) (m : mR) (hm : Cn m) (j : Nat → Int) : PP bb w D pm_306 (69, [(0, .ref 189), (1, .int (i32 (j 1))), (2, .int (i32 (j 2)))], [.int (i32 u0)], (mhp m c, N), 0, 0) (QS (FR1 c N) (rfl_stage_69 u0 m)) := by
  unfold rfl_stage_69
  show PP bb w D pm_306 (69, [(0, .ref 189), (1, .int (i32 (j 1))), (2, .int (i32 (j 2)))], [.int (i32 u0)], (mhp (mO m [] []) c, N), 0, 0) _
  exact P_re1 rfl r0 hm
def rf_stage (v1 : Int) (v2 : Int) (m : mR) : Option (Int × mR) :=
  if m.1 128 = 0 then
    some ((-1), (mO m [(1, 0)] []))
  else
    bnd (rf_in v1 (m.1 129)) fun y2 =>
    if y2 = 0 then
      some ((-1), (mO m [(1, 0)] []))
    else
      if v2 = 0 then
        rfl_stage_69 ((m.2 132) v1) (mO m [(1, 0)] [])
      else
        if v2 = 1 then
          rfl_stage_69 (cut ((m.2 133) v1)) (mO m [(1, 0)] [])
        else
          if v2 = 2 then
            rfl_stage_69 (cut ((m.2 134) v1)) (mO m [(1, 0)] [])
          else
            rfl_stage_69 (-1) (mO m [(1, 0)] [])
theorem D_stage (w : wX) (m : mR) (c : Nat → Option am_C) (N D : Nat) (hm : Cn m) (v1 : Int) (v2 : Int) (q1 : R32 v1) (q2 : R32 v2) : PC w D 306 [.ref 189, .int (i32 v1), .int (i32 v2)] (mhp m c, N) (QS (FR1 c N) (rf_stage v1 v2 m)) := by
  refine Pc_of (fun D bb => ?_) D
  unfold rf_stage
  show PP bb w D pm_306 (0, [(0, .ref 189), (1, .int (i32 v1)), (2, .int (i32 v2))], [], (mhp (mO m [] []) c, N), 0, 0) _
  refine P_ld 1 (.ref 189) rfl (fun _ => rfl) ?_
  refine P_ld 2 (.int (i32 0)) rfl (fun _ => rfl) ?_
  refine P_pf (l' := [(1, 0)]) 5 0 rfl rfl rfl rfl rfl rfl ?_
  refine P_gf 9 (.int (i32 (m.1 128))) rfl rfl rfl rfl rfl rfl ?_
  refine P_ifF 23 12 rfl rfl rfl (Cn_i hm 128 rfl) rfl (fun h1 => ?_) (fun h1 => ?_)
  · skip
    refine P_ld 24 (.int (i32 (-1))) rfl (fun _ => rfl) ?_
    exact P_re1 rfl (l32 (-1) rfl) (Cn_mO hm ⟨(rV_i rfl (l32 0 rfl)), trivial⟩ trivial)
  · skip
    refine P_ld 13 (.int (i32 v1)) rfl (fun _ => rfl) ?_
    refine P_gf 17 (.int (i32 (m.1 129))) rfl rfl rfl rfl rfl rfl ?_
    refine P_cp1 20 305 [.int (i32 v1), .int (i32 (m.1 129))] [] rfl (fun _ => rfl) rfl (D_in w _ D v1 (m.1 129) q1 (Cn_i hm 129 rfl)) (fun y2 h3 => ?_)
    refine P_ifE 25 23 rfl rfl rfl h3 rfl (fun h4 => ?_) (fun h4 => ?_)
    · skip
      refine P_ld 24 (.int (i32 (-1))) rfl (fun _ => rfl) ?_
      exact P_re1 rfl (l32 (-1) rfl) (Cn_mO hm ⟨(rV_i rfl (l32 0 rfl)), trivial⟩ trivial)
    · skip
      refine P_ld 26 (.int (i32 v2)) rfl (fun _ => rfl) ?_
      refine P_ifE 38 29 rfl rfl rfl q2 rfl (fun h5 => ?_) (fun h5 => ?_)
      · skip
        refine P_gf 33 (.ref 286) rfl rfl rfl rfl rfl rfl ?_
        refine P_ld 34 (.int (i32 v1)) rfl (fun _ => rfl) ?_
        refine P_iald2 35 132 (m.2 132) rfl rfl rfl q1 rfl ?_
        refine P_goto 69 rfl (fun _ => rfl) ?_
        exact dg_stage_69 w c N D bb ((m.2 132) v1) (rE_i (Cn_a hm 132) rfl _) (mO m [(1, 0)] []) (Cn_mO hm ⟨(rV_i rfl (l32 0 rfl)), trivial⟩ trivial) (jk [(1, v1), (2, v2)])
      · skip
        refine P_ld 39 (.int (i32 v2)) rfl (fun _ => rfl) ?_
        refine P_ld 40 (.int (i32 1)) rfl (fun _ => rfl) ?_
        refine P_icE 53 43 rfl rfl rfl q2 (l32 1 rfl) rfl (fun h6 => ?_) (fun h6 => ?_)
        · skip
          refine P_gf 47 (.ref 287) rfl rfl rfl rfl rfl rfl ?_
          refine P_ld 48 (.int (i32 v1)) rfl (fun _ => rfl) ?_
          refine P_lald2 49 133 (m.2 133) rfl rfl rfl q1 rfl ?_
          refine P_op 50 (cut ((m.2 133) v1)) _ rfl (fun _ => rfl) o_l2i ?_
          refine P_goto 69 rfl (fun _ => rfl) ?_
          exact dg_stage_69 w c N D bb (cut ((m.2 133) v1)) cut_r (mO m [(1, 0)] []) (Cn_mO hm ⟨(rV_i rfl (l32 0 rfl)), trivial⟩ trivial) (jk [(1, v1), (2, v2)])
        · skip
          refine P_ld 54 (.int (i32 v2)) rfl (fun _ => rfl) ?_
          refine P_ld 55 (.int (i32 2)) rfl (fun _ => rfl) ?_
          refine P_icE 68 58 rfl rfl rfl q2 (l32 2 rfl) rfl (fun h7 => ?_) (fun h7 => ?_)
          · skip
            refine P_gf 62 (.ref 288) rfl rfl rfl rfl rfl rfl ?_
            refine P_ld 63 (.int (i32 v1)) rfl (fun _ => rfl) ?_
            refine P_lald2 64 134 (m.2 134) rfl rfl rfl q1 rfl ?_
            refine P_op 65 (cut ((m.2 134) v1)) _ rfl (fun _ => rfl) o_l2i ?_
            refine P_goto 69 rfl (fun _ => rfl) ?_
            exact dg_stage_69 w c N D bb (cut ((m.2 134) v1)) cut_r (mO m [(1, 0)] []) (Cn_mO hm ⟨(rV_i rfl (l32 0 rfl)), trivial⟩ trivial) (jk [(1, v1), (2, v2)])
          · skip
            refine P_ld 69 (.int (i32 (-1))) rfl (fun _ => rfl) ?_
            exact dg_stage_69 w c N D bb (-1) (l32 (-1) rfl) (mO m [(1, 0)] []) (Cn_mO hm ⟨(rV_i rfl (l32 0 rfl)), trivial⟩ trivial) (jk [(1, v1), (2, v2)])
def rfl_count_89 (u0 : Int) (m : mR) : Option (Int × mR) :=
  some (u0, m)
theorem dg_count_89 (w : wX) (c : Nat → Option am_C) (N D : Nat) (bb : Nat) (u0 : Int) (r0 : R32 u0) (m : mR) (hm : Cn m) (j : Nat → Int) : PP bb w D pm_348 (89, [(0, .ref 189), (1, .int (i32 (j 1)))], [.int (i32 u0)], (mhp m c, N), 0, 0) (QS (FR1 c N) (rfl_count_89 u0 m)) := by
  unfold rfl_count_89
  show PP bb w D pm_348 (89, [(0, .ref 189), (1, .int (i32 (j 1)))], [.int (i32 u0)], (mhp (mO m [] []) c, N), 0, 0) _
  exact P_re1 rfl r0 hm
def rf_count (v1 : Int) (m : mR) : Option (Int × mR) :=
  if v1 = 0 then
    some (m.1 148, (mO m [(1, 0)] []))
  else
    if v1 = 1 then
      some (m.1 149, (mO m [(1, 0)] []))
    else
      if v1 = 2 then
        some (cut ((m.1 150) - (m.1 151)), (mO m [(1, 0)] []))
      else
        if v1 = 3 then
          some (m.1 151, (mO m [(1, 0)] []))
        else
          if v1 = 4 then
            some (m.1 152, (mO m [(1, 0)] []))
          else
            if v1 = 5 then
              if m.1 128 = 0 then
                rfl_count_89 0 (mO m [(1, 0)] [])
              else
                rfl_count_89 (m.1 129) (mO m [(1, 0)] [])
            else
              some ((-1), (mO m [(1, 0)] []))
theorem D_count (w : wX) (m : mR) (c : Nat → Option am_C) (N D : Nat) (hm : Cn m) (v1 : Int) (q1 : R32 v1) : PC w D 348 [.ref 189, .int (i32 v1)] (mhp m c, N) (QS (FR1 c N) (rf_count v1 m)) := by
  refine Pc_of (fun D bb => ?_) D
  unfold rf_count
  show PP bb w D pm_348 (0, [(0, .ref 189), (1, .int (i32 v1))], [], (mhp (mO m [] []) c, N), 0, 0) _
  refine P_ld 1 (.ref 189) rfl (fun _ => rfl) ?_
  refine P_ld 2 (.int (i32 0)) rfl (fun _ => rfl) ?_
  refine P_pf (l' := [(1, 0)]) 5 0 rfl rfl rfl rfl rfl rfl ?_
  refine P_ld 6 (.int (i32 v1)) rfl (fun _ => rfl) ?_
  refine P_cs (fun h1 => ?_) (fun h1 => ?_)
  · skip
    refine P_cast 0 h1 ?_
    refine P_pop 44 rfl (fun _ => rfl) ?_
    refine P_gf 48 (.int (i32 (m.1 148))) rfl rfl rfl rfl rfl rfl ?_
    exact P_re1 rfl (Cn_i hm 148 rfl) (Cn_mO hm ⟨(rV_i rfl (l32 0 rfl)), trivial⟩ trivial)
  · skip
    refine P_cs (fun h2 => ?_) (fun h2 => ?_)
    · skip
      refine P_cast 1 h2 ?_
      refine P_pop 49 rfl (fun _ => rfl) ?_
      refine P_gf 53 (.int (i32 (m.1 149))) rfl rfl rfl rfl rfl rfl ?_
      exact P_re1 rfl (Cn_i hm 149 rfl) (Cn_mO hm ⟨(rV_i rfl (l32 0 rfl)), trivial⟩ trivial)
    · skip
      refine P_cs (fun h3 => ?_) (fun h3 => ?_)
      · skip
        refine P_cast 2 h3 ?_
        refine P_pop 54 rfl (fun _ => rfl) ?_
        refine P_gf 58 (.int (i32 (m.1 150))) rfl rfl rfl rfl rfl rfl ?_
        refine P_gf 62 (.int (i32 (m.1 151))) rfl rfl rfl rfl rfl rfl ?_
        refine P_op 63 (cut ((m.1 150) - (m.1 151))) _ rfl (fun _ => rfl) o_sub ?_
        exact P_re1 rfl cut_r (Cn_mO hm ⟨(rV_i rfl (l32 0 rfl)), trivial⟩ trivial)
      · skip
        refine P_cs (fun h4 => ?_) (fun h4 => ?_)
        · skip
          refine P_cast 3 h4 ?_
          refine P_pop 64 rfl (fun _ => rfl) ?_
          refine P_gf 68 (.int (i32 (m.1 151))) rfl rfl rfl rfl rfl rfl ?_
          exact P_re1 rfl (Cn_i hm 151 rfl) (Cn_mO hm ⟨(rV_i rfl (l32 0 rfl)), trivial⟩ trivial)
        · skip
          refine P_cs (fun h5 => ?_) (fun h5 => ?_)
          · skip
            refine P_cast 4 h5 ?_
            refine P_pop 69 rfl (fun _ => rfl) ?_
            refine P_gf 73 (.int (i32 (m.1 152))) rfl rfl rfl rfl rfl rfl ?_
            exact P_re1 rfl (Cn_i hm 152 rfl) (Cn_mO hm ⟨(rV_i rfl (l32 0 rfl)), trivial⟩ trivial)
          · skip
            refine P_cs (fun h6 => ?_) (fun h6 => ?_)
            · skip
              refine P_cast 5 h6 ?_
              refine P_pop 74 rfl (fun _ => rfl) ?_
              refine P_gf 78 (.int (i32 (m.1 128))) rfl rfl rfl rfl rfl rfl ?_
              refine P_ifF 88 81 rfl rfl rfl (Cn_i hm 128 rfl) rfl (fun h7 => ?_) (fun h7 => ?_)
              · skip
                refine P_ld 89 (.int (i32 0)) rfl (fun _ => rfl) ?_
                exact dg_count_89 w c N D bb 0 (l32 0 rfl) (mO m [(1, 0)] []) (Cn_mO hm ⟨(rV_i rfl (l32 0 rfl)), trivial⟩ trivial) (jk [(1, v1)])
              · skip
                refine P_gf 85 (.int (i32 (m.1 129))) rfl rfl rfl rfl rfl rfl ?_
                refine P_goto 89 rfl (fun _ => rfl) ?_
                exact dg_count_89 w c N D bb (m.1 129) (Cn_i hm 129 rfl) (mO m [(1, 0)] []) (Cn_mO hm ⟨(rV_i rfl (l32 0 rfl)), trivial⟩ trivial) (jk [(1, v1)])
            · skip
              refine P_tsd 90 rfl rfl q1 (by omega) ?_
              refine P_ld 91 (.int (i32 (-1))) rfl (fun _ => rfl) ?_
              exact P_re1 rfl (l32 (-1) rfl) (Cn_mO hm ⟨(rV_i rfl (l32 0 rfl)), trivial⟩ trivial)
end X50F
