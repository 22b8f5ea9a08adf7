noncomputable section X50G
def kf_pw_feed (v1 : Int) (v2 : Int) (v3 : Int) (v4 : Int) (v5 : Int) (m : mR) : Option (Int × mR) :=
  some (0, (mO m [] [(0, upI (upI (upI (upI (upI (m.2 0) 0 v1) 1 v2) 2 v3) 3 v4) 4 v5)]))
theorem D_pw_feed (w : wX) (m : mR) (c : Nat → Option am_C) (N D : Nat) (hm : KCn m) (v1 : Int) (v2 : Int) (v3 : Int) (v4 : Int) (v5 : Int) (q1 : R32 v1) (q2 : R32 v2) (q3 : R32 v3) (q4 : R32 v4) (q5 : R32 v5) : PC w D 23 [.ref 0, .int (i32 v1), .int (i32 v2), .int (i32 v3), .int (i32 v4), .int (i32 v5)] (khp m c, N) (QS (FK0 c N) (kf_pw_feed v1 v2 v3 v4 v5 m)) := by
  refine Pc_of (fun D bb => ?_) D
  unfold kf_pw_feed
  show PP bb w D pm_23 (0, [(0, .ref 0), (1, .int (i32 v1)), (2, .int (i32 v2)), (3, .int (i32 v3)), (4, .int (i32 v4)), (5, .int (i32 v5))], [], (khp (mO m [] []) c, N), 0, 0) _
  refine P_ld 1 (.ref 0) rfl (fun _ => rfl) ?_
  refine PK_gf 4 (.ref 1) rfl rfl kd_0 rfl rfl rfl ?_
  refine P_ld 5 (.int (i32 0)) rfl (fun _ => rfl) ?_
  refine P_ld 6 (.int (i32 v1)) rfl (fun _ => rfl) ?_
  refine PK_iast2 (a' := [(0, upI (m.2 0) 0 v1)]) 7 0 (m.2 0) rfl rfl rfl (l32 0 rfl) rfl rfl ?_
  refine P_ld 8 (.ref 0) rfl (fun _ => rfl) ?_
  refine PK_gf 11 (.ref 1) rfl rfl kd_0 rfl rfl rfl ?_
  refine P_ld 12 (.int (i32 1)) rfl (fun _ => rfl) ?_
  refine P_ld 13 (.int (i32 v2)) rfl (fun _ => rfl) ?_
  refine PK_iast2 (a' := [(0, upI (upI (m.2 0) 0 v1) 1 v2)]) 14 0 (upI (m.2 0) 0 v1) rfl rfl rfl (l32 1 rfl) rfl rfl ?_
  refine P_ld 15 (.ref 0) rfl (fun _ => rfl) ?_
  refine PK_gf 18 (.ref 1) rfl rfl kd_0 rfl rfl rfl ?_
  refine P_ld 19 (.int (i32 2)) rfl (fun _ => rfl) ?_
  refine P_ld 20 (.int (i32 v3)) rfl (fun _ => rfl) ?_
  refine PK_iast2 (a' := [(0, upI (upI (upI (m.2 0) 0 v1) 1 v2) 2 v3)]) 21 0 (upI (upI (m.2 0) 0 v1) 1 v2) rfl rfl rfl (l32 2 rfl) rfl rfl ?_
  refine P_ld 22 (.ref 0) rfl (fun _ => rfl) ?_
  refine PK_gf 25 (.ref 1) rfl rfl kd_0 rfl rfl rfl ?_
  refine P_ld 26 (.int (i32 3)) rfl (fun _ => rfl) ?_
  refine P_ld 28 (.int (i32 v4)) rfl (fun _ => rfl) ?_
  refine PK_iast2 (a' := [(0, upI (upI (upI (upI (m.2 0) 0 v1) 1 v2) 2 v3) 3 v4)]) 29 0 (upI (upI (upI (m.2 0) 0 v1) 1 v2) 2 v3) rfl rfl rfl (l32 3 rfl) rfl rfl ?_
  refine P_ld 30 (.ref 0) rfl (fun _ => rfl) ?_
  refine PK_gf 33 (.ref 1) rfl rfl kd_0 rfl rfl rfl ?_
  refine P_ld 34 (.int (i32 4)) rfl (fun _ => rfl) ?_
  refine P_ld 36 (.int (i32 v5)) rfl (fun _ => rfl) ?_
  refine PK_iast2 (a' := [(0, upI (upI (upI (upI (upI (m.2 0) 0 v1) 1 v2) 2 v3) 3 v4) 4 v5)]) 37 0 (upI (upI (upI (upI (m.2 0) 0 v1) 1 v2) 2 v3) 3 v4) rfl rfl rfl (l32 4 rfl) rfl rfl ?_
  exact P_rk0 rfl rfl (KCn_mO hm rfl rfl trivial ⟨(kE_ui (kE_ui (kE_ui (kE_ui (kE_ui (KCn_a hm 0) rfl q1) rfl q2) rfl q3) rfl q4) rfl q5), trivial⟩)
def cs_Arrays_fill0_b0_5 (s : Int × mR) : Prop := R32 s.1 ∧ KCn s.2
def cx_Arrays_fill0_b0_5 : (mR) → Prop := (fun (e : mR) => KCn e)
def hd_Arrays_fill0_b0_5 (c : Nat → Option am_C) (N : Nat) (v1 : Int) (v3 : Int) (s : Int × mR) (j : Nat → Int) : ag_St af_T := (5, [(0, .ref 1), (1, .int (i32 v1)), (2, .int (i32 s.1)), (3, .int (i32 v3))], [], (khp s.2 c, N), 0, 0)
def ex_Arrays_fill0_b0_5 (c : Nat → Option am_C) (N : Nat) (v1 : Int) (v3 : Int) : (mR) → (Nat → Int) → ag_St af_T := (fun (e : mR) (j : Nat → Int) => ((20, [(0, .ref 1), (1, .int (i32 (j 1))), (2, .int (i32 (j 2))), (3, .int (i32 (j 3)))], [], (khp e c, N), 0, 0) : ag_St af_T))
def kfb_Arrays_fill0_b0_5 (v1 : Int) (v3 : Int) (s : Int × mR) : Option (Sum (Int × mR) (mR)) :=
  if v3 ≤ s.1 then
    some (.inr s.2)
  else
    some (.inl (cut (s.1 + 1), (mO s.2 [] [(0, upI (s.2.2 0) s.1 v1)])))
theorem dh_Arrays_fill0_b0_5 (w : wX) (c : Nat → Option am_C) (N D : Nat) (v1 : Int) (v3 : Int) (q1 : R32 v1) (q3 : R32 v3) (bb : Nat) (Q2 : Sum (Int × mR) (mR) → ag_Re af_T → Prop) (H1 : ∀ s j, cs_Arrays_fill0_b0_5 s → PP bb w D pm_25 (hd_Arrays_fill0_b0_5 c N v1 v3 s j) (Q2 (.inl s))) (H2 : ∀ x j, cx_Arrays_fill0_b0_5 x → PP bb w D pm_25 (ex_Arrays_fill0_b0_5 c N v1 v3 x j) (Q2 (.inr x))) (s : Int × mR) (j : Nat → Int) (hs : cs_Arrays_fill0_b0_5 s) : PP (bb + 1) w D pm_25 (hd_Arrays_fill0_b0_5 c N v1 v3 s j) (QS Q2 (kfb_Arrays_fill0_b0_5 v1 v3 s)) := by
  obtain ⟨g2, gm⟩ := hs
  unfold kfb_Arrays_fill0_b0_5
  show PP (bb + 1) w D pm_25 (5, [(0, .ref 1), (1, .int (i32 v1)), (2, .int (i32 s.1)), (3, .int (i32 v3))], [], (khp (mO s.2 [] []) c, N), 0, 0) _
  refine P1_ld 6 (.int (i32 s.1)) rfl (fun _ => rfl) ?_
  refine P_ld 7 (.int (i32 v3)) rfl (fun _ => rfl) ?_
  refine P_icF 20 10 rfl rfl rfl g2 q3 rfl (fun h3 => ?_) (fun h3 => ?_)
  · skip
    refine P_some ?_
    exact H2 s.2 (jk [(1, v1), (2, s.1), (3, v3)]) gm
  · skip
    refine P_ld 11 (.ref 1) rfl (fun _ => rfl) ?_
    refine P_ld 12 (.int (i32 s.1)) rfl (fun _ => rfl) ?_
    refine P_ld 13 (.int (i32 v1)) rfl (fun _ => rfl) ?_
    refine PK_iast2 (a' := [(0, upI (s.2.2 0) s.1 v1)]) 14 0 (s.2.2 0) rfl rfl rfl g2 rfl rfl ?_
    refine P_inc 17 [(2, .int (i32 (cut (s.1 + 1)))), (0, .ref 1), (1, .int (i32 v1)), (3, .int (i32 v3))] rfl rfl (by decide) rfl rfl ?_
    refine P_goto 5 rfl (fun _ => rfl) ?_
    refine P_some ?_
    refine P_lv (b := [(0, .ref 1), (1, .int (i32 v1)), (2, .int (i32 (cut (s.1 + 1)))), (3, .int (i32 v3))]) rfl rfl ⟨rfl, rfl, rfl, rfl, trivial⟩ ?_
    exact H1 (cut (s.1 + 1), (mO s.2 [] [(0, upI (s.2.2 0) s.1 v1)])) (jk []) ⟨cut_r, (KCn_mO gm rfl rfl trivial ⟨(kE_ui (KCn_a gm 0) rfl q1), trivial⟩)⟩
def kf_Arrays_fill0_b0 (v1 : Int) (m : mR) : Option (Int × mR) :=
  bnd (whl (kfb_Arrays_fill0_b0_5 v1 5) (0, m)) (fun e4 : mR =>
    some (0, e4))
theorem D_Arrays_fill0_b0 (w : wX) (m : mR) (c : Nat → Option am_C) (N D : Nat) (hm : KCn m) (v1 : Int) (q1 : R32 v1) : PC w D 25 [.ref 1, .int (i32 v1)] (khp m c, N) (QS (FK0 c N) (kf_Arrays_fill0_b0 v1 m)) := by
  refine Pc_of (fun D bb => ?_) D
  unfold kf_Arrays_fill0_b0
  show PP bb w D pm_25 (0, [(0, .ref 1), (1, .int (i32 v1))], [], (khp (mO m [] []) c, N), 0, 0) _
  refine P_ld 1 (.int (i32 0)) rfl (fun _ => rfl) ?_
  refine P_sto 2 [(2, .int (i32 0)), (0, .ref 1), (1, .int (i32 v1))] rfl (fun _ => rfl) ?_
  refine P_ld 3 (.ref 1) rfl (fun _ => rfl) ?_
  refine P_ld1 4 (.int (i32 5)) rfl (fun _ => rfl) ?_
  refine P_sto 5 [(3, .int (i32 5)), (2, .int (i32 0)), (0, .ref 1), (1, .int (i32 v1))] rfl (fun _ => rfl) ?_
  refine P_lv (b := [(0, .ref 1), (1, .int (i32 v1)), (2, .int (i32 0)), (3, .int (i32 5))]) rfl rfl ⟨rfl, rfl, rfl, rfl, trivial⟩ ?_
  refine P_bnd ?_
  refine P_whl (fun bb Q2 H1 H2 s9 j9 hs9 => dh_Arrays_fill0_b0_5 w c N D v1 5 q1 (l32 5 rfl) bb Q2 H1 H2 s9 j9 hs9) bb (fun e4 j q5 => ?_) (0, m) (jk []) ⟨(l32 0 rfl), hm⟩
  have q6 := q5
  show PP bb w D pm_25 (20, [(0, .ref 1), (1, .int (i32 (j 1))), (2, .int (i32 (j 2))), (3, .int (i32 (j 3)))], [], (khp (mO e4 [] []) c, N), 0, 0) (QS _ (some (0, e4)))
  exact P_rk0 rfl rfl q6
def cs_pw_end_26 (s : Int × mR) : Prop := R32 s.1 ∧ KCn s.2
def cx_pw_end_26 : (mR) → Prop := (fun (e : mR) => KCn e)
def hd_pw_end_26 (c : Nat → Option am_C) (N : Nat) (v1 : Int) (s : Int × mR) (j : Nat → Int) : ag_St af_T := (26, [(0, .ref 0), (1, .int (i32 v1)), (2, .int (i32 s.1))], [], (khp s.2 c, N), 0, 0)
def ex_pw_end_26 (c : Nat → Option am_C) (N : Nat) (v1 : Int) : (mR) → (Nat → Int) → ag_St af_T := (fun (e : mR) (j : Nat → Int) => ((67, [(0, .ref 0), (1, .int (i32 v1)), (2, .int (i32 (j 2)))], [], (khp e c, N), 0, 0) : ag_St af_T))
def kfl_pw_end_67 (v1 : Int) (m : mR) : Option (Int × mR) :=
  bnd (kf_Arrays_fill0_b0 0 (mO m [(200, cut ((m.1 200) + v1))] [])) fun y2 =>
  some (y2.2.1 200, y2.2)
theorem dg_pw_end_67 (w : wX) (c : Nat → Option am_C) (N D : Nat) (bb : Nat) (v1 : Int) (q1 : R32 v1) (m : mR) (hm : KCn m) (j : Nat → Int) : PP bb w D pm_24 (67, [(0, .ref 0), (1, .int (i32 v1)), (2, .int (i32 (j 2)))], [], (khp m c, N), 0, 0) (QS (FK1 c N) (kfl_pw_end_67 v1 m)) := by
  unfold kfl_pw_end_67
  show PP bb w D pm_24 (67, [(0, .ref 0), (1, .int (i32 v1)), (2, .int (i32 (j 2)))], [], (khp (mO m [] []) c, N), 0, 0) _
  refine P_ld 68 (.ref 0) rfl (fun _ => rfl) ?_
  refine P_ld 69 (.ref 0) rfl (fun _ => rfl) ?_
  refine PK_gf 72 (.int (i32 (m.1 200))) rfl rfl kd_0 rfl rfl rfl ?_
  refine P_ld 73 (.int (i32 v1)) rfl (fun _ => rfl) ?_
  refine P_op 74 (cut ((m.1 200) + v1)) _ rfl (fun _ => rfl) o_add ?_
  refine PK_pf (l' := [(200, cut ((m.1 200) + v1))]) 77 (cut ((m.1 200) + v1)) rfl rfl kd_0 rfl rfl rfl rfl rfl rfl rfl ?_
  refine P_ld 78 (.ref 0) rfl (fun _ => rfl) ?_
  refine PK_gf 81 (.ref 1) rfl rfl kd_0 rfl rfl rfl ?_
  refine P_ld 82 (.int (i32 0)) rfl (fun _ => rfl) ?_
  refine P_ck0 85 25 [.ref 1, .int (i32 0)] [] rfl (fun _ => rfl) rfl (D_Arrays_fill0_b0 w (mO m [(200, cut ((m.1 200) + v1))] []) c N D (KCn_mO hm rfl rfl ⟨(kV_i rfl cut_r), trivial⟩ trivial) 0 (l32 0 rfl)) (fun y2 n4 => ?_)
  refine P_ld 86 (.ref 0) rfl (fun _ => rfl) ?_
  refine PK_gf 89 (.int (i32 (y2.2.1 200))) rfl rfl kd_0 rfl rfl rfl ?_
  exact P_rk1 rfl (KCn_i n4 200 rfl) n4
def kfb_pw_end_26 (v1 : Int) (s : Int × mR) : Option (Sum (Int × mR) (mR)) :=
  if v1 ≤ s.1 then
    some (.inr s.2)
  else
    some (.inl (cut (s.1 + 1), (mO s.2 [] [(1, upI (s.2.2 1) (cut ((s.2.1 200) + s.1)) (nar2 (i2b32 (ushr32 ((s.2.2 0) (s.1.tdiv 4)) (cut (24 - (cut (8 * (s.1.tmod 4)))))))))])))
theorem dh_pw_end_26 (w : wX) (c : Nat → Option am_C) (N D : Nat) (v1 : Int) (q1 : R32 v1) (bb : Nat) (Q2 : Sum (Int × mR) (mR) → ag_Re af_T → Prop) (H1 : ∀ s j, cs_pw_end_26 s → PP bb w D pm_24 (hd_pw_end_26 c N v1 s j) (Q2 (.inl s))) (H2 : ∀ x j, cx_pw_end_26 x → PP bb w D pm_24 (ex_pw_end_26 c N v1 x j) (Q2 (.inr x))) (s : Int × mR) (j : Nat → Int) (hs : cs_pw_end_26 s) : PP (bb + 1) w D pm_24 (hd_pw_end_26 c N v1 s j) (QS Q2 (kfb_pw_end_26 v1 s)) := by
  obtain ⟨g2, gm⟩ := hs
  unfold kfb_pw_end_26
  show PP (bb + 1) w D pm_24 (26, [(0, .ref 0), (1, .int (i32 v1)), (2, .int (i32 s.1))], [], (khp (mO s.2 [] []) c, N), 0, 0) _
  refine P1_ld 27 (.int (i32 s.1)) rfl (fun _ => rfl) ?_
  refine P_ld 28 (.int (i32 v1)) rfl (fun _ => rfl) ?_
  refine P_icF 67 31 rfl rfl rfl g2 q1 rfl (fun h6 => ?_) (fun h6 => ?_)
  · skip
    refine P_some ?_
    exact H2 s.2 (jk [(2, s.1)]) gm
  · skip
    refine P_ld 32 (.ref 0) rfl (fun _ => rfl) ?_
    refine PK_gf 35 (.ref 2) rfl rfl kd_0 rfl rfl rfl ?_
    refine P_ld 36 (.ref 0) rfl (fun _ => rfl) ?_
    refine PK_gf 39 (.int (i32 (s.2.1 200))) rfl rfl kd_0 rfl rfl rfl ?_
    refine P_ld 40 (.int (i32 s.1)) rfl (fun _ => rfl) ?_
    refine P_op 41 (cut ((s.2.1 200) + s.1)) _ rfl (fun _ => rfl) o_add ?_
    refine P_ld 42 (.ref 0) rfl (fun _ => rfl) ?_
    refine PK_gf 45 (.ref 1) rfl rfl kd_0 rfl rfl rfl ?_
    refine P_ld 46 (.int (i32 s.1)) rfl (fun _ => rfl) ?_
    refine P_ld 47 (.int (i32 4)) rfl (fun _ => rfl) ?_
    refine P_div 48 rfl rfl g2 (by decide) (by decide) ?_
    refine PK_iald2 49 0 (s.2.2 0) rfl rfl rfl (tdiv_r g2 (by decide)) rfl ?_
    refine P_ld 51 (.int (i32 24)) rfl (fun _ => rfl) ?_
    refine P_ld 53 (.int (i32 8)) rfl (fun _ => rfl) ?_
    refine P_ld 54 (.int (i32 s.1)) rfl (fun _ => rfl) ?_
    refine P_ld 55 (.int (i32 4)) rfl (fun _ => rfl) ?_
    refine P_rem 56 rfl rfl g2 (by decide) (by decide) ?_
    refine P_op 57 (cut (8 * (s.1.tmod 4))) _ rfl (fun _ => rfl) o_mul ?_
    refine P_op 58 (cut (24 - (cut (8 * (s.1.tmod 4))))) _ rfl (fun _ => rfl) o_sub ?_
    refine P_op 59 (ushr32 ((s.2.2 0) (s.1.tdiv 4)) (cut (24 - (cut (8 * (s.1.tmod 4)))))) _ rfl (fun _ => rfl) (i32_of _).symm ?_
    refine P_op 60 (i2b32 (ushr32 ((s.2.2 0) (s.1.tdiv 4)) (cut (24 - (cut (8 * (s.1.tmod 4))))))) _ rfl (fun _ => rfl) (i32_of _).symm ?_
    refine PK_bast2 (a' := [(1, upI (s.2.2 1) (cut ((s.2.1 200) + s.1)) (nar2 (i2b32 (ushr32 ((s.2.2 0) (s.1.tdiv 4)) (cut (24 - (cut (8 * (s.1.tmod 4)))))))))]) 61 1 (s.2.2 1) rfl rfl rfl cut_r rfl rfl ?_
    refine P_inc 64 [(2, .int (i32 (cut (s.1 + 1)))), (0, .ref 0), (1, .int (i32 v1))] rfl rfl (by decide) rfl rfl ?_
    refine P_goto 26 rfl (fun _ => rfl) ?_
    refine P_some ?_
    refine P_lv (b := [(0, .ref 0), (1, .int (i32 v1)), (2, .int (i32 (cut (s.1 + 1))))]) rfl rfl ⟨rfl, rfl, rfl, trivial⟩ ?_
    exact H1 (cut (s.1 + 1), (mO s.2 [] [(1, upI (s.2.2 1) (cut ((s.2.1 200) + s.1)) (nar2 (i2b32 (ushr32 ((s.2.2 0) (s.1.tdiv 4)) (cut (24 - (cut (8 * (s.1.tmod 4)))))))))])) (jk []) ⟨cut_r, (KCn_mO gm rfl rfl trivial ⟨(kE_ui (KCn_a gm 1) rfl t32_r), trivial⟩)⟩
def kf_pw_end (v1 : Int) (m : mR) : Option (Int × mR) :=
  if v1 < 0 then
    some ((-1), m)
  else
    if (20 : Int) < v1 then
      some ((-1), m)
    else
      if cut ((m.1 200) + v1) ≤ 4000 then
        bnd (whl (kfb_pw_end_26 v1) (0, m)) (fun e10 : mR =>
          kfl_pw_end_67 v1 e10)
      else
        some ((-1), m)
theorem D_pw_end (w : wX) (m : mR) (c : Nat → Option am_C) (N D : Nat) (hm : KCn m) (v1 : Int) (q1 : R32 v1) : PC w D 24 [.ref 0, .int (i32 v1)] (khp m c, N) (QS (FK1 c N) (kf_pw_end v1 m)) := by
  refine Pc_of (fun D bb => ?_) D
  unfold kf_pw_end
  show PP bb w D pm_24 (0, [(0, .ref 0), (1, .int (i32 v1))], [], (khp (mO m [] []) c, N), 0, 0) _
  refine P_ld 1 (.int (i32 v1)) rfl (fun _ => rfl) ?_
  refine P_ifF 22 4 rfl rfl rfl q1 rfl (fun h7 => ?_) (fun h7 => ?_)
  · skip
    refine P_ld 23 (.int (i32 (-1))) rfl (fun _ => rfl) ?_
    exact P_rk1 rfl (l32 (-1) rfl) hm
  · skip
    refine P_ld 5 (.int (i32 v1)) rfl (fun _ => rfl) ?_
    refine P_ld 7 (.int (i32 20)) rfl (fun _ => rfl) ?_
    refine P_icF 22 10 rfl rfl rfl q1 (l32 20 rfl) rfl (fun h8 => ?_) (fun h8 => ?_)
    · skip
      refine P_ld 23 (.int (i32 (-1))) rfl (fun _ => rfl) ?_
      exact P_rk1 rfl (l32 (-1) rfl) hm
    · skip
      refine P_ld 11 (.ref 0) rfl (fun _ => rfl) ?_
      refine PK_gf 14 (.int (i32 (m.1 200))) rfl rfl kd_0 rfl rfl rfl ?_
      refine P_ld 15 (.int (i32 v1)) rfl (fun _ => rfl) ?_
      refine P_op 16 (cut ((m.1 200) + v1)) _ rfl (fun _ => rfl) o_add ?_
      refine P_ld 19 (.int (i32 4000)) rfl (fun _ => rfl) ?_
      refine P_icF 24 22 rfl rfl rfl cut_r (l32 4000 rfl) rfl (fun h9 => ?_) (fun h9 => ?_)
      · skip
        refine P_ld 25 (.int (i32 0)) rfl (fun _ => rfl) ?_
        refine P_sto 26 [(2, .int (i32 0)), (0, .ref 0), (1, .int (i32 v1))] rfl (fun _ => rfl) ?_
        refine P_lv (b := [(0, .ref 0), (1, .int (i32 v1)), (2, .int (i32 0))]) rfl rfl ⟨rfl, rfl, rfl, trivial⟩ ?_
        refine P_bnd ?_
        refine P_whl (fun bb Q2 H1 H2 s9 j9 hs9 => dh_pw_end_26 w c N D v1 q1 bb Q2 H1 H2 s9 j9 hs9) bb (fun e10 j q11 => ?_) (0, m) (jk []) ⟨(l32 0 rfl), hm⟩
        have q12 := q11
        show PP bb w D pm_24 (67, [(0, .ref 0), (1, .int (i32 v1)), (2, .int (i32 (j 2)))], [], (khp (mO e10 [] []) c, N), 0, 0) (QS _ (kfl_pw_end_67 v1 e10))
        exact dg_pw_end_67 w c N D bb v1 q1 e10 q12 (jk [(2, j 2)])
      · skip
        refine P_ld 23 (.int (i32 (-1))) rfl (fun _ => rfl) ?_
        exact P_rk1 rfl (l32 (-1) rfl) hm
def cs_pr_instanceBits_4 (s : Int × Int) : Prop := R32 s.1 ∧ R32 s.2
def cx_pr_instanceBits_4 : (Int) → Prop := (fun (e : Int) => R32 e)
def hd_pr_instanceBits_4 (c : Nat → Option am_C) (N : Nat) (m : mR) (s : Int × Int) (j : Nat → Int) : ag_St af_T := (4, [(0, .ref 12), (1, .int (i32 s.1)), (2, .int (i32 s.2))], [], (khp m c, N), 0, 0)
def ex_pr_instanceBits_4 (c : Nat → Option am_C) (N : Nat) (m : mR) : (Int) → (Nat → Int) → ag_St af_T := (fun (e : Int) (j : Nat → Int) => ((31, [(0, .ref 12), (1, .int (i32 e)), (2, .int (i32 (j 2)))], [], (khp m c, N), 0, 0) : ag_St af_T))
def kfb_pr_instanceBits_4 (m : mR) (s : Int × Int) : Option (Sum (Int × Int) (Int)) :=
  if m.1 215 ≤ s.2 then
    some (.inr s.1)
  else
    bnd (kf_pr_headerBits ((m.2 13) s.2) m) fun y4 =>
    some (.inl (cut (s.1 + y4), cut (s.2 + 1)))
theorem dh_pr_instanceBits_4 (w : wX) (c : Nat → Option am_C) (N D : Nat) (m : mR) (hm : KCn m) (bb : Nat) (Q2 : Sum (Int × Int) (Int) → ag_Re af_T → Prop) (H1 : ∀ s j, cs_pr_instanceBits_4 s → PP bb w D pm_28 (hd_pr_instanceBits_4 c N m s j) (Q2 (.inl s))) (H2 : ∀ x j, cx_pr_instanceBits_4 x → PP bb w D pm_28 (ex_pr_instanceBits_4 c N m x j) (Q2 (.inr x))) (s : Int × Int) (j : Nat → Int) (hs : cs_pr_instanceBits_4 s) : PP (bb + 1) w D pm_28 (hd_pr_instanceBits_4 c N m s j) (QS Q2 (kfb_pr_instanceBits_4 m s)) := by
  obtain ⟨g1, g2⟩ := hs
  unfold kfb_pr_instanceBits_4
  show PP (bb + 1) w D pm_28 (4, [(0, .ref 12), (1, .int (i32 s.1)), (2, .int (i32 s.2))], [], (khp (mO m [] []) c, N), 0, 0) _
  refine P1_ld 5 (.int (i32 s.2)) rfl (fun _ => rfl) ?_
  refine P_ld 6 (.ref 12) rfl (fun _ => rfl) ?_
  refine PK_gf 9 (.int (i32 (m.1 215))) rfl rfl kd_12 rfl rfl rfl ?_
  refine P_icF 31 12 rfl rfl rfl g2 (KCn_i hm 215 rfl) rfl (fun h3 => ?_) (fun h3 => ?_)
  · skip
    refine P_some ?_
    exact H2 s.1 (jk [(2, s.2)]) g1
  · skip
    refine P_ld 13 (.int (i32 s.1)) rfl (fun _ => rfl) ?_
    refine P_ld 14 (.ref 12) rfl (fun _ => rfl) ?_
    refine P_ld 15 (.ref 12) rfl (fun _ => rfl) ?_
    refine PK_gf 18 (.ref 16) rfl rfl kd_12 rfl rfl rfl ?_
    refine P_ld 19 (.int (i32 s.2)) rfl (fun _ => rfl) ?_
    refine PK_iald2 20 13 (m.2 13) rfl rfl rfl g2 rfl ?_
    refine P_cp1 23 29 [.ref 12, .int (i32 ((m.2 13) s.2))] [.int (i32 s.1)] rfl (fun _ => rfl) rfl (D_pr_headerBits w m c N D hm ((m.2 13) s.2) (kE_i (KCn_a hm 13) rfl _)) (fun y4 h5 => ?_)
    refine P_op 24 (cut (s.1 + y4)) _ rfl (fun _ => rfl) o_add ?_
    refine P_sto 25 [(1, .int (i32 (cut (s.1 + y4)))), (0, .ref 12), (2, .int (i32 s.2))] rfl (fun _ => rfl) ?_
    refine P_inc 28 [(2, .int (i32 (cut (s.2 + 1)))), (1, .int (i32 (cut (s.1 + y4)))), (0, .ref 12)] rfl rfl (by decide) rfl rfl ?_
    refine P_goto 4 rfl (fun _ => rfl) ?_
    refine P_some ?_
    refine P_lv (b := [(0, .ref 12), (1, .int (i32 (cut (s.1 + y4)))), (2, .int (i32 (cut (s.2 + 1))))]) rfl rfl ⟨rfl, rfl, rfl, trivial⟩ ?_
    exact H1 (cut (s.1 + y4), cut (s.2 + 1)) (jk []) ⟨cut_r, cut_r⟩
def kf_pr_instanceBits (m : mR) : Option Int :=
  bnd (whl (kfb_pr_instanceBits_4 m) (0, 0)) (fun e7 : Int =>
    some e7)
theorem D_pr_instanceBits (w : wX) (m : mR) (c : Nat → Option am_C) (N D : Nat) (hm : KCn m) : PC w D 28 [.ref 12] (khp m c, N) (QS (FP1 (khp m c, N)) (kf_pr_instanceBits m)) := by
  refine Pc_of (fun D bb => ?_) D
  unfold kf_pr_instanceBits
  show PP bb w D pm_28 (0, [(0, .ref 12)], [], (khp (mO m [] []) c, N), 0, 0) _
  refine P_ld 1 (.int (i32 0)) rfl (fun _ => rfl) ?_
  refine P_sto 2 [(1, .int (i32 0)), (0, .ref 12)] rfl (fun _ => rfl) ?_
  refine P_ld 3 (.int (i32 0)) rfl (fun _ => rfl) ?_
  refine P_sto 4 [(2, .int (i32 0)), (1, .int (i32 0)), (0, .ref 12)] rfl (fun _ => rfl) ?_
  refine P_lv (b := [(0, .ref 12), (1, .int (i32 0)), (2, .int (i32 0))]) rfl rfl ⟨rfl, rfl, rfl, trivial⟩ ?_
  refine P_bnd ?_
  refine P_whl (fun bb Q2 H1 H2 s9 j9 hs9 => dh_pr_instanceBits_4 w c N D m hm bb Q2 H1 H2 s9 j9 hs9) bb (fun e7 j q8 => ?_) (0, 0) (jk []) ⟨(l32 0 rfl), (l32 0 rfl)⟩
  have q9 := q8
  show PP bb w D pm_28 (31, [(0, .ref 12), (1, .int (i32 e7)), (2, .int (i32 (j 2)))], [], (khp (mO m [] []) c, N), 0, 0) (QS _ (some e7))
  refine P_ld 32 (.int (i32 e7)) rfl (fun _ => rfl) ?_
  exact P_rp1 rfl q9
def kf_pw_size (v1 : Int) (m : mR) : Option Int :=
  if m.1 201 = 0 then
    some (-1)
  else
    if v1 = 0 then
      some (m.1 214)
    else
      if v1 = 1 then
        some (m.1 215)
      else
        if v1 = 2 then
          some (m.1 216)
        else
          if v1 = 3 then
            some (m.1 217)
          else
            if v1 = 4 then
              some (m.1 222)
            else
              if v1 = 5 then
                some (m.1 223)
              else
                if v1 = 6 then
                  some (m.1 219)
                else
                  if v1 = 7 then
                    some (m.1 225)
                  else
                    if v1 = 8 then
                      bnd (kf_pr_instanceBits m) fun y11 =>
                      some y11
                    else
                      some (-1)
theorem D_pw_size (w : wX) (m : mR) (c : Nat → Option am_C) (N D : Nat) (hm : KCn m) (v1 : Int) (q1 : R32 v1) : PC w D 27 [.ref 0, .int (i32 v1)] (khp m c, N) (QS (FP1 (khp m c, N)) (kf_pw_size v1 m)) := by
  refine Pc_of (fun D bb => ?_) D
  unfold kf_pw_size
  show PP bb w D pm_27 (0, [(0, .ref 0), (1, .int (i32 v1))], [], (khp (mO m [] []) c, N), 0, 0) _
  refine P_ld 1 (.ref 0) rfl (fun _ => rfl) ?_
  refine PK_gf 4 (.int (i32 (m.1 201))) rfl rfl kd_0 rfl rfl rfl ?_
  refine P_ifE 9 7 rfl rfl rfl (KCn_i hm 201 rfl) rfl (fun h1 => ?_) (fun h1 => ?_)
  · skip
    refine P_ld 8 (.int (i32 (-1))) rfl (fun _ => rfl) ?_
    exact P_rp1 rfl (l32 (-1) rfl)
  · skip
    refine P_ld 10 (.int (i32 v1)) rfl (fun _ => rfl) ?_
    refine P_cs (fun h2 => ?_) (fun h2 => ?_)
    · skip
      refine P_cast 0 h2 ?_
      refine P_pop 60 rfl (fun _ => rfl) ?_
      refine P_ld 61 (.ref 0) rfl (fun _ => rfl) ?_
      refine PK_gf 64 (.ref 12) rfl rfl kd_0 rfl rfl rfl ?_
      refine PK_gf 67 (.int (i32 (m.1 214))) rfl rfl kd_12 rfl rfl rfl ?_
      exact P_rp1 rfl (KCn_i hm 214 rfl)
    · skip
      refine P_cs (fun h3 => ?_) (fun h3 => ?_)
      · skip
        refine P_cast 1 h3 ?_
        refine P_pop 68 rfl (fun _ => rfl) ?_
        refine P_ld 69 (.ref 0) rfl (fun _ => rfl) ?_
        refine PK_gf 72 (.ref 12) rfl rfl kd_0 rfl rfl rfl ?_
        refine PK_gf 75 (.int (i32 (m.1 215))) rfl rfl kd_12 rfl rfl rfl ?_
        exact P_rp1 rfl (KCn_i hm 215 rfl)
      · skip
        refine P_cs (fun h4 => ?_) (fun h4 => ?_)
        · skip
          refine P_cast 2 h4 ?_
          refine P_pop 76 rfl (fun _ => rfl) ?_
          refine P_ld 77 (.ref 0) rfl (fun _ => rfl) ?_
          refine PK_gf 80 (.ref 12) rfl rfl kd_0 rfl rfl rfl ?_
          refine PK_gf 83 (.int (i32 (m.1 216))) rfl rfl kd_12 rfl rfl rfl ?_
          exact P_rp1 rfl (KCn_i hm 216 rfl)
        · skip
          refine P_cs (fun h5 => ?_) (fun h5 => ?_)
          · skip
            refine P_cast 3 h5 ?_
            refine P_pop 84 rfl (fun _ => rfl) ?_
            refine P_ld 85 (.ref 0) rfl (fun _ => rfl) ?_
            refine PK_gf 88 (.ref 12) rfl rfl kd_0 rfl rfl rfl ?_
            refine PK_gf 91 (.int (i32 (m.1 217))) rfl rfl kd_12 rfl rfl rfl ?_
            exact P_rp1 rfl (KCn_i hm 217 rfl)
          · skip
            refine P_cs (fun h6 => ?_) (fun h6 => ?_)
            · skip
              refine P_cast 4 h6 ?_
              refine P_pop 92 rfl (fun _ => rfl) ?_
              refine P_ld 93 (.ref 0) rfl (fun _ => rfl) ?_
              refine PK_gf 96 (.ref 12) rfl rfl kd_0 rfl rfl rfl ?_
              refine PK_gf 99 (.ref 31) rfl rfl kd_12 rfl rfl rfl ?_
              refine PK_gf 102 (.int (i32 (m.1 222))) rfl rfl kd_31 rfl rfl rfl ?_
              exact P_rp1 rfl (KCn_i hm 222 rfl)
            · skip
              refine P_cs (fun h7 => ?_) (fun h7 => ?_)
              · skip
                refine P_cast 5 h7 ?_
                refine P_pop 103 rfl (fun _ => rfl) ?_
                refine P_ld 104 (.ref 0) rfl (fun _ => rfl) ?_
                refine PK_gf 107 (.ref 12) rfl rfl kd_0 rfl rfl rfl ?_
                refine PK_gf 110 (.ref 45) rfl rfl kd_12 rfl rfl rfl ?_
                refine PK_gf 113 (.int (i32 (m.1 223))) rfl rfl kd_45 rfl rfl rfl ?_
                exact P_rp1 rfl (KCn_i hm 223 rfl)
              · skip
                refine P_cs (fun h8 => ?_) (fun h8 => ?_)
                · skip
                  refine P_cast 6 h8 ?_
                  refine P_pop 114 rfl (fun _ => rfl) ?_
                  refine P_ld 115 (.ref 0) rfl (fun _ => rfl) ?_
                  refine PK_gf 118 (.ref 12) rfl rfl kd_0 rfl rfl rfl ?_
                  refine PK_gf 121 (.int (i32 (m.1 219))) rfl rfl kd_12 rfl rfl rfl ?_
                  exact P_rp1 rfl (KCn_i hm 219 rfl)
                · skip
                  refine P_cs (fun h9 => ?_) (fun h9 => ?_)
                  · skip
                    refine P_cast 7 h9 ?_
                    refine P_pop 122 rfl (fun _ => rfl) ?_
                    refine P_ld 123 (.ref 0) rfl (fun _ => rfl) ?_
                    refine PK_gf 126 (.ref 12) rfl rfl kd_0 rfl rfl rfl ?_
                    refine PK_gf 129 (.ref 59) rfl rfl kd_12 rfl rfl rfl ?_
                    refine PK_gf 132 (.int (i32 (m.1 225))) rfl rfl kd_59 rfl rfl rfl ?_
                    exact P_rp1 rfl (KCn_i hm 225 rfl)
                  · skip
                    refine P_cs (fun h10 => ?_) (fun h10 => ?_)
                    · skip
                      refine P_cast 8 h10 ?_
                      refine P_pop 133 rfl (fun _ => rfl) ?_
                      refine P_ld 134 (.ref 0) rfl (fun _ => rfl) ?_
                      refine PK_gf 137 (.ref 12) rfl rfl kd_0 rfl rfl rfl ?_
                      refine P_cp1 140 28 [.ref 12] [] rfl (fun _ => rfl) rfl (D_pr_instanceBits w m c N D hm) (fun y11 h12 => ?_)
                      exact P_rp1 rfl h12
                    · skip
                      refine P_tsd 141 rfl rfl q1 (by omega) ?_
                      refine P_ld 142 (.int (i32 (-1))) rfl (fun _ => rfl) ?_
                      exact P_rp1 rfl (l32 (-1) rfl)
def kf_pw_homeless (m : mR) : Option Int :=
  some (m.1 202)
theorem D_pw_homeless (w : wX) (m : mR) (c : Nat → Option am_C) (N D : Nat) (hm : KCn m) : PC w D 30 [.ref 0] (khp m c, N) (QS (FP1 (khp m c, N)) (kf_pw_homeless m)) := by
  refine Pc_of (fun D bb => ?_) D
  unfold kf_pw_homeless
  show PP bb w D pm_30 (0, [(0, .ref 0)], [], (khp (mO m [] []) c, N), 0, 0) _
  refine P_ld 1 (.ref 0) rfl (fun _ => rfl) ?_
  refine PK_gf 4 (.int (i32 (m.1 202))) rfl rfl kd_0 rfl rfl rfl ?_
  exact P_rp1 rfl (KCn_i hm 202 rfl)
def kfl_pw_step_80 (u0 : Int) (m : mR) : Option Int :=
  some u0
theorem dg_pw_step_80 (w : wX) (c : Nat → Option am_C) (N D : Nat) (bb : Nat) (u0 : Int) (r0 : R32 u0) (m : mR) (hm : KCn m) (j : Nat → Int) : PP bb w D pm_31 (80, [(0, .ref 0), (1, .int (i32 (j 1))), (2, .int (i32 (j 2))), (3, .ref 59)], [.int (i32 u0)], (khp m c, N), 0, 0) (QS (FP1 (khp m c, N)) (kfl_pw_step_80 u0 m)) := by
  unfold kfl_pw_step_80
  show PP bb w D pm_31 (80, [(0, .ref 0), (1, .int (i32 (j 1))), (2, .int (i32 (j 2))), (3, .ref 59)], [.int (i32 u0)], (khp (mO m [] []) c, N), 0, 0) _
  exact P_rp1 rfl r0
def kf_pw_step (v1 : Int) (v2 : Int) (m : mR) : Option Int :=
  if m.1 201 = 0 then
    some (-1)
  else
    if v1 < 0 then
      some (-1)
    else
      if v1 < m.1 225 then
        if v2 = 0 then
          some ((m.2 52) v1)
        else
          if v2 = 1 then
            if m.1 226 ≤ 0 then
              kfl_pw_step_80 (-1) m
            else
              kfl_pw_step_80 ((m.2 59) v1) m
          else
            if v2 = 2 then
              some ((m.2 55) v1)
            else
              some (-1)
      else
        some (-1)
theorem D_pw_step (w : wX) (m : mR) (c : Nat → Option am_C) (N D : Nat) (hm : KCn m) (v1 : Int) (v2 : Int) (q1 : R32 v1) (q2 : R32 v2) : PC w D 31 [.ref 0, .int (i32 v1), .int (i32 v2)] (khp m c, N) (QS (FP1 (khp m c, N)) (kf_pw_step v1 v2 m)) := by
  refine Pc_of (fun D bb => ?_) D
  unfold kf_pw_step
  show PP bb w D pm_31 (0, [(0, .ref 0), (1, .int (i32 v1)), (2, .int (i32 v2))], [], (khp (mO m [] []) c, N), 0, 0) _
  refine P_ld 1 (.ref 0) rfl (fun _ => rfl) ?_
  refine PK_gf 4 (.ref 12) rfl rfl kd_0 rfl rfl rfl ?_
  refine PK_gf 7 (.ref 59) rfl rfl kd_12 rfl rfl rfl ?_
  refine P_sto 8 [(3, .ref 59), (0, .ref 0), (1, .int (i32 v1)), (2, .int (i32 v2))] rfl (fun _ => rfl) ?_
  refine P_ld 9 (.ref 0) rfl (fun _ => rfl) ?_
  refine PK_gf 12 (.int (i32 (m.1 201))) rfl rfl kd_0 rfl rfl rfl ?_
  refine P_ifF 27 15 rfl rfl rfl (KCn_i hm 201 rfl) rfl (fun h1 => ?_) (fun h1 => ?_)
  · skip
    refine P_ld 28 (.int (i32 (-1))) rfl (fun _ => rfl) ?_
    exact P_rp1 rfl (l32 (-1) rfl)
  · skip
    refine P_ld 16 (.int (i32 v1)) rfl (fun _ => rfl) ?_
    refine P_ifF 27 19 rfl rfl rfl q1 rfl (fun h2 => ?_) (fun h2 => ?_)
    · skip
      refine P_ld 28 (.int (i32 (-1))) rfl (fun _ => rfl) ?_
      exact P_rp1 rfl (l32 (-1) rfl)
    · skip
      refine P_ld 20 (.int (i32 v1)) rfl (fun _ => rfl) ?_
      refine P_ld 21 (.ref 59) rfl (fun _ => rfl) ?_
      refine PK_gf 24 (.int (i32 (m.1 225))) rfl rfl kd_59 rfl rfl rfl ?_
      refine P_icF 29 27 rfl rfl rfl q1 (KCn_i hm 225 rfl) rfl (fun h3 => ?_) (fun h3 => ?_)
      · skip
        refine P_ld 30 (.int (i32 v2)) rfl (fun _ => rfl) ?_
        refine P_cs (fun h4 => ?_) (fun h4 => ?_)
        · skip
          refine P_cast 0 h4 ?_
          refine P_pop 56 rfl (fun _ => rfl) ?_
          refine P_ld 57 (.ref 59) rfl (fun _ => rfl) ?_
          refine PK_gf 60 (.ref 60) rfl rfl kd_59 rfl rfl rfl ?_
          refine P_ld 61 (.int (i32 v1)) rfl (fun _ => rfl) ?_
          refine PK_iald2 62 52 (m.2 52) rfl rfl rfl q1 rfl ?_
          exact P_rp1 rfl (kE_i (KCn_a hm 52) rfl _)
        · skip
          refine P_cs (fun h5 => ?_) (fun h5 => ?_)
          · skip
            refine P_cast 1 h5 ?_
            refine P_pop 63 rfl (fun _ => rfl) ?_
            refine P_ld 64 (.ref 59) rfl (fun _ => rfl) ?_
            refine PK_gf 67 (.int (i32 (m.1 226))) rfl rfl kd_59 rfl rfl rfl ?_
            refine P_ifF 79 70 rfl rfl rfl (KCn_i hm 226 rfl) rfl (fun h6 => ?_) (fun h6 => ?_)
            · skip
              refine P_ld 80 (.int (i32 (-1))) rfl (fun _ => rfl) ?_
              refine P_lv (b := [(0, .ref 0), (1, .int (i32 v1)), (2, .int (i32 v2)), (3, .ref 59)]) rfl rfl ⟨rfl, rfl, rfl, rfl, trivial⟩ ?_
              exact dg_pw_step_80 w c N D bb (-1) (l32 (-1) rfl) m hm (jk [(1, v1), (2, v2)])
            · skip
              refine P_ld 71 (.ref 59) rfl (fun _ => rfl) ?_
              refine PK_gf 74 (.ref 67) rfl rfl kd_59 rfl rfl rfl ?_
              refine P_ld 75 (.int (i32 v1)) rfl (fun _ => rfl) ?_
              refine PK_iald2 76 59 (m.2 59) rfl rfl rfl q1 rfl ?_
              refine P_goto 80 rfl (fun _ => rfl) ?_
              refine P_lv (b := [(0, .ref 0), (1, .int (i32 v1)), (2, .int (i32 v2)), (3, .ref 59)]) rfl rfl ⟨rfl, rfl, rfl, rfl, trivial⟩ ?_
              exact dg_pw_step_80 w c N D bb ((m.2 59) v1) (kE_i (KCn_a hm 59) rfl _) m hm (jk [(1, v1), (2, v2)])
          · skip
            refine P_cs (fun h7 => ?_) (fun h7 => ?_)
            · skip
              refine P_cast 2 h7 ?_
              refine P_pop 81 rfl (fun _ => rfl) ?_
              refine P_ld 82 (.ref 59) rfl (fun _ => rfl) ?_
              refine PK_gf 85 (.ref 63) rfl rfl kd_59 rfl rfl rfl ?_
              refine P_ld 86 (.int (i32 v1)) rfl (fun _ => rfl) ?_
              refine PK_iald2 87 55 (m.2 55) rfl rfl rfl q1 rfl ?_
              exact P_rp1 rfl (kE_i (KCn_a hm 55) rfl _)
            · skip
              refine P_tsd 88 rfl rfl q2 (by omega) ?_
              refine P_ld 89 (.int (i32 (-1))) rfl (fun _ => rfl) ?_
              exact P_rp1 rfl (l32 (-1) rfl)
      · skip
        refine P_ld 28 (.int (i32 (-1))) rfl (fun _ => rfl) ?_
        exact P_rp1 rfl (l32 (-1) rfl)
def kfl_pw_isLaid_25 (u0 : Int) (m : mR) : Option Int :=
  some u0
theorem dg_pw_isLaid_25 (w : wX) (c : Nat → Option am_C) (N D : Nat) (bb : Nat) (u0 : Int) (r0 : R32 u0) (m : mR) (hm : KCn m) (j : Nat → Int) : PP bb w D pm_33 (25, [(0, .ref 0)], [.int (i32 u0)], (khp m c, N), 0, 0) (QS (FP1 (khp m c, N)) (kfl_pw_isLaid_25 u0 m)) := by
  unfold kfl_pw_isLaid_25
  show PP bb w D pm_33 (25, [(0, .ref 0)], [.int (i32 u0)], (khp (mO m [] []) c, N), 0, 0) _
  exact P_rp1 rfl r0
def kf_pw_isLaid (m : mR) : Option Int :=
  if m.1 201 = 0 then
    kfl_pw_isLaid_25 0 m
  else
    if m.1 226 ≤ 0 then
      kfl_pw_isLaid_25 0 m
    else
      kfl_pw_isLaid_25 1 m
theorem D_pw_isLaid (w : wX) (m : mR) (c : Nat → Option am_C) (N D : Nat) (hm : KCn m) : PC w D 33 [.ref 0] (khp m c, N) (QS (FP1 (khp m c, N)) (kf_pw_isLaid m)) := by
  refine Pc_of (fun D bb => ?_) D
  unfold kf_pw_isLaid
  show PP bb w D pm_33 (0, [(0, .ref 0)], [], (khp (mO m [] []) c, N), 0, 0) _
  refine P_ld 1 (.ref 0) rfl (fun _ => rfl) ?_
  refine PK_gf 4 (.int (i32 (m.1 201))) rfl rfl kd_0 rfl rfl rfl ?_
  refine P_ifF 24 7 rfl rfl rfl (KCn_i hm 201 rfl) rfl (fun h1 => ?_) (fun h1 => ?_)
  · skip
    refine P_ld 25 (.int (i32 0)) rfl (fun _ => rfl) ?_
    exact dg_pw_isLaid_25 w c N D bb 0 (l32 0 rfl) m hm (jk [])
  · skip
    refine P_ld 8 (.ref 0) rfl (fun _ => rfl) ?_
    refine PK_gf 11 (.ref 12) rfl rfl kd_0 rfl rfl rfl ?_
    refine PK_gf 14 (.ref 59) rfl rfl kd_12 rfl rfl rfl ?_
    refine PK_gf 17 (.int (i32 (m.1 226))) rfl rfl kd_59 rfl rfl rfl ?_
    refine P_ifF 24 20 rfl rfl rfl (KCn_i hm 226 rfl) rfl (fun h2 => ?_) (fun h2 => ?_)
    · skip
      refine P_ld 25 (.int (i32 0)) rfl (fun _ => rfl) ?_
      exact dg_pw_isLaid_25 w c N D bb 0 (l32 0 rfl) m hm (jk [])
    · skip
      refine P_ld 21 (.int (i32 1)) rfl (fun _ => rfl) ?_
      refine P_goto 25 rfl (fun _ => rfl) ?_
      exact dg_pw_isLaid_25 w c N D bb 1 (l32 1 rfl) m hm (jk [])
def kf_pw_stage (v1 : Int) (v2 : Int) (m : mR) : Option Int :=
  bnd (kf_pw_isLaid m) fun y1 =>
  if y1 = 0 then
    some (-1)
  else
    if v1 < 0 then
      some (-1)
    else
      if v1 < m.1 226 then
        if v2 = 0 then
          some ((m.2 63) v1)
        else
          if v2 = 1 then
            some ((m.2 64) v1)
          else
            if v2 = 2 then
              some ((m.2 65) v1)
            else
              some (-1)
      else
        some (-1)
theorem D_pw_stage (w : wX) (m : mR) (c : Nat → Option am_C) (N D : Nat) (hm : KCn m) (v1 : Int) (v2 : Int) (q1 : R32 v1) (q2 : R32 v2) : PC w D 32 [.ref 0, .int (i32 v1), .int (i32 v2)] (khp m c, N) (QS (FP1 (khp m c, N)) (kf_pw_stage v1 v2 m)) := by
  refine Pc_of (fun D bb => ?_) D
  unfold kf_pw_stage
  show PP bb w D pm_32 (0, [(0, .ref 0), (1, .int (i32 v1)), (2, .int (i32 v2))], [], (khp (mO m [] []) c, N), 0, 0) _
  refine P_ld 1 (.ref 0) rfl (fun _ => rfl) ?_
  refine PK_gf 4 (.ref 12) rfl rfl kd_0 rfl rfl rfl ?_
  refine PK_gf 7 (.ref 59) rfl rfl kd_12 rfl rfl rfl ?_
  refine P_sto 8 [(3, .ref 59), (0, .ref 0), (1, .int (i32 v1)), (2, .int (i32 v2))] rfl (fun _ => rfl) ?_
  refine P_ld 9 (.ref 0) rfl (fun _ => rfl) ?_
  refine P_cp1 12 33 [.ref 0] [] rfl (fun _ => rfl) rfl (D_pw_isLaid w m c N D hm) (fun y1 h2 => ?_)
  refine P_ifF 27 15 rfl rfl rfl h2 rfl (fun h4 => ?_) (fun h4 => ?_)
  · skip
    refine P_ld 28 (.int (i32 (-1))) rfl (fun _ => rfl) ?_
    exact P_rp1 rfl (l32 (-1) rfl)
  · skip
    refine P_ld 16 (.int (i32 v1)) rfl (fun _ => rfl) ?_
    refine P_ifF 27 19 rfl rfl rfl q1 rfl (fun h5 => ?_) (fun h5 => ?_)
    · skip
      refine P_ld 28 (.int (i32 (-1))) rfl (fun _ => rfl) ?_
      exact P_rp1 rfl (l32 (-1) rfl)
    · skip
      refine P_ld 20 (.int (i32 v1)) rfl (fun _ => rfl) ?_
      refine P_ld 21 (.ref 59) rfl (fun _ => rfl) ?_
      refine PK_gf 24 (.int (i32 (m.1 226))) rfl rfl kd_59 rfl rfl rfl ?_
      refine P_icF 29 27 rfl rfl rfl q1 (KCn_i hm 226 rfl) rfl (fun h6 => ?_) (fun h6 => ?_)
      · skip
        refine P_ld 30 (.int (i32 v2)) rfl (fun _ => rfl) ?_
        refine P_cs (fun h7 => ?_) (fun h7 => ?_)
        · skip
          refine P_cast 0 h7 ?_
          refine P_pop 56 rfl (fun _ => rfl) ?_
          refine P_ld 57 (.ref 59) rfl (fun _ => rfl) ?_
          refine PK_gf 60 (.ref 71) rfl rfl kd_59 rfl rfl rfl ?_
          refine P_ld 61 (.int (i32 v1)) rfl (fun _ => rfl) ?_
          refine PK_iald2 62 63 (m.2 63) rfl rfl rfl q1 rfl ?_
          exact P_rp1 rfl (kE_i (KCn_a hm 63) rfl _)
        · skip
          refine P_cs (fun h8 => ?_) (fun h8 => ?_)
          · skip
            refine P_cast 1 h8 ?_
            refine P_pop 63 rfl (fun _ => rfl) ?_
            refine P_ld 64 (.ref 59) rfl (fun _ => rfl) ?_
            refine PK_gf 67 (.ref 72) rfl rfl kd_59 rfl rfl rfl ?_
            refine P_ld 68 (.int (i32 v1)) rfl (fun _ => rfl) ?_
            refine PK_iald2 69 64 (m.2 64) rfl rfl rfl q1 rfl ?_
            exact P_rp1 rfl (kE_i (KCn_a hm 64) rfl _)
          · skip
            refine P_cs (fun h9 => ?_) (fun h9 => ?_)
            · skip
              refine P_cast 2 h9 ?_
              refine P_pop 70 rfl (fun _ => rfl) ?_
              refine P_ld 71 (.ref 59) rfl (fun _ => rfl) ?_
              refine PK_gf 74 (.ref 73) rfl rfl kd_59 rfl rfl rfl ?_
              refine P_ld 75 (.int (i32 v1)) rfl (fun _ => rfl) ?_
              refine PK_iald2 76 65 (m.2 65) rfl rfl rfl q1 rfl ?_
              exact P_rp1 rfl (kE_i (KCn_a hm 65) rfl _)
            · skip
              refine P_tsd 77 rfl rfl q2 (by omega) ?_
              refine P_ld 78 (.int (i32 (-1))) rfl (fun _ => rfl) ?_
              exact P_rp1 rfl (l32 (-1) rfl)
      · skip
        refine P_ld 28 (.int (i32 (-1))) rfl (fun _ => rfl) ?_
        exact P_rp1 rfl (l32 (-1) rfl)
def kf_pi_inStages (m : mR) : Option Int :=
  some (cut ((m.1 233) - (m.1 234)))
theorem D_pi_inStages (w : wX) (m : mR) (c : Nat → Option am_C) (N D : Nat) (hm : KCn m) : PC w D 41 [.ref 185] (khp m c, N) (QS (FP1 (khp m c, N)) (kf_pi_inStages m)) := by
  refine Pc_of (fun D bb => ?_) D
  unfold kf_pi_inStages
  show PP bb w D pm_41 (0, [(0, .ref 185)], [], (khp (mO m [] []) c, N), 0, 0) _
  refine P_ld 1 (.ref 185) rfl (fun _ => rfl) ?_
  refine PK_gf 4 (.int (i32 (m.1 233))) rfl rfl kd_185 rfl rfl rfl ?_
  refine P_ld 5 (.ref 185) rfl (fun _ => rfl) ?_
  refine PK_gf 8 (.int (i32 (m.1 234))) rfl rfl kd_185 rfl rfl rfl ?_
  refine P_op 9 (cut ((m.1 233) - (m.1 234))) _ rfl (fun _ => rfl) o_sub ?_
  exact P_rp1 rfl cut_r
def kf_pi_inLine (m : mR) : Option Int :=
  some (cut ((m.1 232) - (m.1 233)))
theorem D_pi_inLine (w : wX) (m : mR) (c : Nat → Option am_C) (N D : Nat) (hm : KCn m) : PC w D 40 [.ref 185] (khp m c, N) (QS (FP1 (khp m c, N)) (kf_pi_inLine m)) := by
  refine Pc_of (fun D bb => ?_) D
  unfold kf_pi_inLine
  show PP bb w D pm_40 (0, [(0, .ref 185)], [], (khp (mO m [] []) c, N), 0, 0) _
  refine P_ld 1 (.ref 185) rfl (fun _ => rfl) ?_
  refine PK_gf 4 (.int (i32 (m.1 232))) rfl rfl kd_185 rfl rfl rfl ?_
  refine P_ld 5 (.ref 185) rfl (fun _ => rfl) ?_
  refine PK_gf 8 (.int (i32 (m.1 233))) rfl rfl kd_185 rfl rfl rfl ?_
  refine P_op 9 (cut ((m.1 232) - (m.1 233))) _ rfl (fun _ => rfl) o_sub ?_
  exact P_rp1 rfl cut_r
def kfl_pw_count_101 (u0 : Int) (m : mR) : Option Int :=
  some u0
theorem dg_pw_count_101 (w : wX) (c : Nat → Option am_C) (N D : Nat) (bb : Nat) (u0 : Int) (r0 : R32 u0) (m : mR) (hm : KCn m) (j : Nat → Int) : PP bb w D pm_39 (101, [(0, .ref 0), (1, .int (i32 (j 1)))], [.int (i32 u0)], (khp m c, N), 0, 0) (QS (FP1 (khp m c, N)) (kfl_pw_count_101 u0 m)) := by
  unfold kfl_pw_count_101
  show PP bb w D pm_39 (101, [(0, .ref 0), (1, .int (i32 (j 1)))], [.int (i32 u0)], (khp (mO m [] []) c, N), 0, 0) _
  exact P_rp1 rfl r0
def kf_pw_count (v1 : Int) (m : mR) : Option Int :=
  if v1 = 0 then
    some (m.1 232)
  else
    if v1 = 1 then
      bnd (kf_pi_inLine m) fun y3 =>
      some y3
    else
      if v1 = 2 then
        bnd (kf_pi_inStages m) fun y7 =>
        some y7
      else
        if v1 = 3 then
          some (m.1 234)
        else
          if v1 = 4 then
            some (m.1 235)
          else
            if v1 = 5 then
              if m.1 201 = 0 then
                kfl_pw_count_101 0 m
              else
                kfl_pw_count_101 (m.1 226) m
            else
              some (-1)
theorem D_pw_count (w : wX) (m : mR) (c : Nat → Option am_C) (N D : Nat) (hm : KCn m) (v1 : Int) (q1 : R32 v1) : PC w D 39 [.ref 0, .int (i32 v1)] (khp m c, N) (QS (FP1 (khp m c, N)) (kf_pw_count v1 m)) := by
  refine Pc_of (fun D bb => ?_) D
  unfold kf_pw_count
  show PP bb w D pm_39 (0, [(0, .ref 0), (1, .int (i32 v1))], [], (khp (mO m [] []) c, N), 0, 0) _
  refine P_ld 1 (.int (i32 v1)) rfl (fun _ => rfl) ?_
  refine P_cs (fun h1 => ?_) (fun h1 => ?_)
  · skip
    refine P_cast 0 h1 ?_
    refine P_pop 40 rfl (fun _ => rfl) ?_
    refine P_ld 41 (.ref 0) rfl (fun _ => rfl) ?_
    refine PK_gf 44 (.ref 185) rfl rfl kd_0 rfl rfl rfl ?_
    refine PK_gf 47 (.int (i32 (m.1 232))) rfl rfl kd_185 rfl rfl rfl ?_
    exact P_rp1 rfl (KCn_i hm 232 rfl)
  · skip
    refine P_cs (fun h2 => ?_) (fun h2 => ?_)
    · skip
      refine P_cast 1 h2 ?_
      refine P_pop 48 rfl (fun _ => rfl) ?_
      refine P_ld 49 (.ref 0) rfl (fun _ => rfl) ?_
      refine PK_gf 52 (.ref 185) rfl rfl kd_0 rfl rfl rfl ?_
      refine P_cp1 55 40 [.ref 185] [] rfl (fun _ => rfl) rfl (D_pi_inLine w m c N D hm) (fun y3 h4 => ?_)
      exact P_rp1 rfl h4
    · skip
      refine P_cs (fun h6 => ?_) (fun h6 => ?_)
      · skip
        refine P_cast 2 h6 ?_
        refine P_pop 56 rfl (fun _ => rfl) ?_
        refine P_ld 57 (.ref 0) rfl (fun _ => rfl) ?_
        refine PK_gf 60 (.ref 185) rfl rfl kd_0 rfl rfl rfl ?_
        refine P_cp1 63 41 [.ref 185] [] rfl (fun _ => rfl) rfl (D_pi_inStages w m c N D hm) (fun y7 h8 => ?_)
        exact P_rp1 rfl h8
      · skip
        refine P_cs (fun h10 => ?_) (fun h10 => ?_)
        · skip
          refine P_cast 3 h10 ?_
          refine P_pop 64 rfl (fun _ => rfl) ?_
          refine P_ld 65 (.ref 0) rfl (fun _ => rfl) ?_
          refine PK_gf 68 (.ref 185) rfl rfl kd_0 rfl rfl rfl ?_
          refine PK_gf 71 (.int (i32 (m.1 234))) rfl rfl kd_185 rfl rfl rfl ?_
          exact P_rp1 rfl (KCn_i hm 234 rfl)
        · skip
          refine P_cs (fun h11 => ?_) (fun h11 => ?_)
          · skip
            refine P_cast 4 h11 ?_
            refine P_pop 72 rfl (fun _ => rfl) ?_
            refine P_ld 73 (.ref 0) rfl (fun _ => rfl) ?_
            refine PK_gf 76 (.ref 185) rfl rfl kd_0 rfl rfl rfl ?_
            refine PK_gf 79 (.int (i32 (m.1 235))) rfl rfl kd_185 rfl rfl rfl ?_
            exact P_rp1 rfl (KCn_i hm 235 rfl)
          · skip
            refine P_cs (fun h12 => ?_) (fun h12 => ?_)
            · skip
              refine P_cast 5 h12 ?_
              refine P_pop 80 rfl (fun _ => rfl) ?_
              refine P_ld 81 (.ref 0) rfl (fun _ => rfl) ?_
              refine PK_gf 84 (.int (i32 (m.1 201))) rfl rfl kd_0 rfl rfl rfl ?_
              refine P_ifF 100 87 rfl rfl rfl (KCn_i hm 201 rfl) rfl (fun h13 => ?_) (fun h13 => ?_)
              · skip
                refine P_ld 101 (.int (i32 0)) rfl (fun _ => rfl) ?_
                exact dg_pw_count_101 w c N D bb 0 (l32 0 rfl) m hm (jk [(1, v1)])
              · skip
                refine P_ld 88 (.ref 0) rfl (fun _ => rfl) ?_
                refine PK_gf 91 (.ref 12) rfl rfl kd_0 rfl rfl rfl ?_
                refine PK_gf 94 (.ref 59) rfl rfl kd_12 rfl rfl rfl ?_
                refine PK_gf 97 (.int (i32 (m.1 226))) rfl rfl kd_59 rfl rfl rfl ?_
                refine P_goto 101 rfl (fun _ => rfl) ?_
                exact dg_pw_count_101 w c N D bb (m.1 226) (KCn_i hm 226 rfl) m hm (jk [(1, v1)])
            · skip
              refine P_tsd 102 rfl rfl q1 (by omega) ?_
              refine P_ld 103 (.int (i32 (-1))) rfl (fun _ => rfl) ?_
              exact P_rp1 rfl (l32 (-1) rfl)
end X50G
