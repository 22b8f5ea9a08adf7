noncomputable section X55BB
def cs_findSame_4 (s : Int × Int) : Prop := R32 s.1 ∧ R32 s.2
def cx_findSame_4 : (Int) → Prop := (fun (e : Int) => R32 e)
def hd_findSame_4 (c : Nat → Option am_C) (N : Nat) (v1 : Int) (m : mR) (s : Int × Int) (j : Nat → Int) : ag_St af_T := (4, [(0, .ref 189), (1, .int (i32 v1)), (2, .int (i32 s.1)), (3, .int (i32 s.2)), (4, .int (i32 (j 4))), (5, .int (i32 (j 5))), (6, .int (i32 (j 6))), (7, .int (i32 (j 7))), (8, .long (i64 (j 8)))], [], (mhp m c, N), 0, 0)
def ex_findSame_4 (c : Nat → Option am_C) (N : Nat) (v1 : Int) (m : mR) : (Int) → (Nat → Int) → ag_St af_T := (fun (e : Int) (j : Nat → Int) => ((140, [(0, .ref 189), (1, .int (i32 (j 1))), (2, .int (i32 e)), (3, .int (i32 (j 3))), (4, .int (i32 (j 4))), (5, .int (i32 (j 5))), (6, .int (i32 (j 6))), (7, .int (i32 (j 7))), (8, .long (i64 (j 8)))], [], (mhp m c, N), 0, 0) : ag_St af_T))
def cs_findSame_20 (s : Int × Int) : Prop := R32 s.1 ∧ R32 s.2
def cx_findSame_20 : (Int) → Prop := (fun (e : Int) => R32 e)
def hd_findSame_20 (c : Nat → Option am_C) (N : Nat) (v1 : Int) (v2 : Int) (v3 : Int) (m : mR) (s : Int × Int) (j : Nat → Int) : ag_St af_T := (20, [(0, .ref 189), (1, .int (i32 v1)), (2, .int (i32 v2)), (3, .int (i32 v3)), (4, .int (i32 s.1)), (5, .int (i32 s.2)), (6, .int (i32 (j 6))), (7, .int (i32 (j 7))), (8, .long (i64 (j 8)))], [], (mhp m c, N), 0, 0)
def ex_findSame_20 (c : Nat → Option am_C) (N : Nat) (v1 : Int) (v2 : Int) (v3 : Int) (m : mR) : (Int) → (Nat → Int) → ag_St af_T := (fun (e : Int) (j : Nat → Int) => ((123, [(0, .ref 189), (1, .int (i32 v1)), (2, .int (i32 v2)), (3, .int (i32 v3)), (4, .int (i32 e)), (5, .int (i32 (j 5))), (6, .int (i32 (j 6))), (7, .int (i32 (j 7))), (8, .long (i64 (j 8)))], [], (mhp m c, N), 0, 0) : ag_St af_T))
def rfl_findSame_133 (v1 : Int) (v3 : Int) (u0 : Int) (m : mR) : Option (Sum (Int × Int) (Int)) :=
  some (.inl (u0, cut (v3 + 1)))
theorem dg_findSame_133 (w : wX) (c : Nat → Option am_C) (N D : Nat) (bb : Nat) (v1 : Int) (v3 : Int) (u0 : Int) (q1 : R32 v1) (q3 : R32 v3) (r0 : R32 u0) (m : mR) (hm : Cn m) (j : Nat → Int) (Q2 : Sum (Int × Int) (Int) → ag_Re af_T → Prop) (H1 : ∀ s j, cs_findSame_4 s → PP bb w D pm_318 (hd_findSame_4 c N v1 m s j) (Q2 (.inl s))) (H2 : ∀ x j, cx_findSame_4 x → PP bb w D pm_318 (ex_findSame_4 c N v1 m x j) (Q2 (.inr x))) : PP bb w D pm_318 (133, [(0, .ref 189), (1, .int (i32 v1)), (2, .int (i32 (j 2))), (3, .int (i32 v3)), (4, .int (i32 (j 4))), (5, .int (i32 (j 5))), (6, .int (i32 (j 6))), (7, .int (i32 (j 7))), (8, .long (i64 (j 8)))], [.int (i32 u0)], (mhp m c, N), 0, 0) (QS Q2 (rfl_findSame_133 v1 v3 u0 m)) := by
  unfold rfl_findSame_133
  show PP bb w D pm_318 (133, [(0, .ref 189), (1, .int (i32 v1)), (2, .int (i32 (j 2))), (3, .int (i32 v3)), (4, .int (i32 (j 4))), (5, .int (i32 (j 5))), (6, .int (i32 (j 6))), (7, .int (i32 (j 7))), (8, .long (i64 (j 8)))], [.int (i32 u0)], (mhp (mO m [] []) c, N), 0, 0) _
  refine P_sto 134 [(2, .int (i32 u0)), (0, .ref 189), (1, .int (i32 v1)), (3, .int (i32 v3)), (4, .int (i32 (j 4))), (5, .int (i32 (j 5))), (6, .int (i32 (j 6))), (7, .int (i32 (j 7))), (8, .long (i64 (j 8)))] rfl (fun _ => rfl) ?_
  refine P_inc 137 [(3, .int (i32 (cut (v3 + 1)))), (2, .int (i32 u0)), (0, .ref 189), (1, .int (i32 v1)), (4, .int (i32 (j 4))), (5, .int (i32 (j 5))), (6, .int (i32 (j 6))), (7, .int (i32 (j 7))), (8, .long (i64 (j 8)))] rfl rfl (by decide) rfl rfl ?_
  refine P_goto 4 rfl (fun _ => rfl) ?_
  refine P_some ?_
  refine P_lv (b := [(0, .ref 189), (1, .int (i32 v1)), (2, .int (i32 u0)), (3, .int (i32 (cut (v3 + 1)))), (4, .int (i32 (j 4))), (5, .int (i32 (j 5))), (6, .int (i32 (j 6))), (7, .int (i32 (j 7))), (8, .long (i64 (j 8)))]) rfl rfl ⟨rfl, rfl, rfl, rfl, rfl, rfl, rfl, rfl, rfl, trivial⟩ ?_
  exact H1 (u0, cut (v3 + 1)) (jk [(4, j 4), (5, j 5), (6, j 6), (7, j 7), (8, j 8)]) ⟨r0, cut_r⟩
def rfl_findSame_123 (v1 : Int) (v2 : Int) (v3 : Int) (v4 : Int) (m : mR) : Option (Sum (Int × Int) (Int)) :=
  if v4 = 0 then
    rfl_findSame_133 v1 v3 v2 m
  else
    rfl_findSame_133 v1 v3 v3 m
theorem dg_findSame_123 (w : wX) (c : Nat → Option am_C) (N D : Nat) (bb : Nat) (v1 : Int) (v2 : Int) (v3 : Int) (v4 : Int) (q1 : R32 v1) (q2 : R32 v2) (q3 : R32 v3) (q4 : R32 v4) (m : mR) (hm : Cn m) (j : Nat → Int) (Q2 : Sum (Int × Int) (Int) → ag_Re af_T → Prop) (H1 : ∀ s j, cs_findSame_4 s → PP bb w D pm_318 (hd_findSame_4 c N v1 m s j) (Q2 (.inl s))) (H2 : ∀ x j, cx_findSame_4 x → PP bb w D pm_318 (ex_findSame_4 c N v1 m x j) (Q2 (.inr x))) : PP bb w D pm_318 (123, [(0, .ref 189), (1, .int (i32 v1)), (2, .int (i32 v2)), (3, .int (i32 v3)), (4, .int (i32 v4)), (5, .int (i32 (j 5))), (6, .int (i32 (j 6))), (7, .int (i32 (j 7))), (8, .long (i64 (j 8)))], [], (mhp m c, N), 0, 0) (QS Q2 (rfl_findSame_123 v1 v2 v3 v4 m)) := by
  unfold rfl_findSame_123
  show PP bb w D pm_318 (123, [(0, .ref 189), (1, .int (i32 v1)), (2, .int (i32 v2)), (3, .int (i32 v3)), (4, .int (i32 v4)), (5, .int (i32 (j 5))), (6, .int (i32 (j 6))), (7, .int (i32 (j 7))), (8, .long (i64 (j 8)))], [], (mhp (mO m [] []) c, N), 0, 0) _
  refine P_ld 125 (.int (i32 v4)) rfl (fun _ => rfl) ?_
  refine P_ifF 132 128 rfl rfl rfl q4 rfl (fun h3 => ?_) (fun h3 => ?_)
  · skip
    refine P_ld 133 (.int (i32 v2)) rfl (fun _ => rfl) ?_
    exact dg_findSame_133 w c N D bb v1 v3 v2 q1 q3 q2 m hm (jk [(2, v2), (4, v4), (5, j 5), (6, j 6), (7, j 7), (8, j 8)]) Q2 H1 H2
  · skip
    refine P_ld 129 (.int (i32 v3)) rfl (fun _ => rfl) ?_
    refine P_goto 133 rfl (fun _ => rfl) ?_
    exact dg_findSame_133 w c N D bb v1 v3 v3 q1 q3 q3 m hm (jk [(2, v2), (4, v4), (5, j 5), (6, j 6), (7, j 7), (8, j 8)]) Q2 H1 H2
def rfl_findSame_115 (v1 : Int) (v2 : Int) (v3 : Int) (v5 : Int) (u0 : Int) (m : mR) : Option (Sum (Int × Int) (Int)) :=
  some (.inl (u0, cut (v5 + 1)))
theorem dg_findSame_115 (w : wX) (c : Nat → Option am_C) (N D : Nat) (bb : Nat) (v1 : Int) (v2 : Int) (v3 : Int) (v5 : Int) (u0 : Int) (q1 : R32 v1) (q2 : R32 v2) (q3 : R32 v3) (q5 : R32 v5) (r0 : R32 u0) (m : mR) (hm : Cn m) (j : Nat → Int) (Q2 : Sum (Int × Int) (Int) → ag_Re af_T → Prop) (H1 : ∀ s j, cs_findSame_20 s → PP bb w D pm_318 (hd_findSame_20 c N v1 v2 v3 m s j) (Q2 (.inl s))) (H2 : ∀ x j, cx_findSame_20 x → PP bb w D pm_318 (ex_findSame_20 c N v1 v2 v3 m x j) (Q2 (.inr x))) : PP bb w D pm_318 (115, [(0, .ref 189), (1, .int (i32 v1)), (2, .int (i32 v2)), (3, .int (i32 v3)), (4, .int (i32 (j 4))), (5, .int (i32 v5)), (6, .int (i32 (j 6))), (7, .int (i32 (j 7))), (8, .long (i64 (j 8)))], [.int (i32 u0)], (mhp m c, N), 0, 0) (QS Q2 (rfl_findSame_115 v1 v2 v3 v5 u0 m)) := by
  unfold rfl_findSame_115
  show PP bb w D pm_318 (115, [(0, .ref 189), (1, .int (i32 v1)), (2, .int (i32 v2)), (3, .int (i32 v3)), (4, .int (i32 (j 4))), (5, .int (i32 v5)), (6, .int (i32 (j 6))), (7, .int (i32 (j 7))), (8, .long (i64 (j 8)))], [.int (i32 u0)], (mhp (mO m [] []) c, N), 0, 0) _
  refine P_sto 117 [(4, .int (i32 u0)), (0, .ref 189), (1, .int (i32 v1)), (2, .int (i32 v2)), (3, .int (i32 v3)), (5, .int (i32 v5)), (6, .int (i32 (j 6))), (7, .int (i32 (j 7))), (8, .long (i64 (j 8)))] rfl (fun _ => rfl) ?_
  refine P_inc 120 [(5, .int (i32 (cut (v5 + 1)))), (4, .int (i32 u0)), (0, .ref 189), (1, .int (i32 v1)), (2, .int (i32 v2)), (3, .int (i32 v3)), (6, .int (i32 (j 6))), (7, .int (i32 (j 7))), (8, .long (i64 (j 8)))] rfl rfl (by decide) rfl rfl ?_
  refine P_goto 20 rfl (fun _ => rfl) ?_
  refine P_some ?_
  refine P_lv (b := [(0, .ref 189), (1, .int (i32 v1)), (2, .int (i32 v2)), (3, .int (i32 v3)), (4, .int (i32 u0)), (5, .int (i32 (cut (v5 + 1)))), (6, .int (i32 (j 6))), (7, .int (i32 (j 7))), (8, .long (i64 (j 8)))]) rfl rfl ⟨rfl, rfl, rfl, rfl, rfl, rfl, rfl, rfl, rfl, trivial⟩ ?_
  exact H1 (u0, cut (v5 + 1)) (jk [(6, j 6), (7, j 7), (8, j 8)]) ⟨r0, cut_r⟩
def rfl_findSame_114 (v1 : Int) (v2 : Int) (v3 : Int) (v5 : Int) (m : mR) : Option (Sum (Int × Int) (Int)) :=
  rfl_findSame_115 v1 v2 v3 v5 0 m
theorem dg_findSame_114 (w : wX) (c : Nat → Option am_C) (N D : Nat) (bb : Nat) (v1 : Int) (v2 : Int) (v3 : Int) (v5 : Int) (q1 : R32 v1) (q2 : R32 v2) (q3 : R32 v3) (q5 : R32 v5) (m : mR) (hm : Cn m) (j : Nat → Int) (Q2 : Sum (Int × Int) (Int) → ag_Re af_T → Prop) (H1 : ∀ s j, cs_findSame_20 s → PP bb w D pm_318 (hd_findSame_20 c N v1 v2 v3 m s j) (Q2 (.inl s))) (H2 : ∀ x j, cx_findSame_20 x → PP bb w D pm_318 (ex_findSame_20 c N v1 v2 v3 m x j) (Q2 (.inr x))) : PP bb w D pm_318 (114, [(0, .ref 189), (1, .int (i32 v1)), (2, .int (i32 v2)), (3, .int (i32 v3)), (4, .int (i32 (j 4))), (5, .int (i32 v5)), (6, .int (i32 (j 6))), (7, .int (i32 (j 7))), (8, .long (i64 (j 8)))], [], (mhp m c, N), 0, 0) (QS Q2 (rfl_findSame_114 v1 v2 v3 v5 m)) := by
  unfold rfl_findSame_114
  show PP bb w D pm_318 (114, [(0, .ref 189), (1, .int (i32 v1)), (2, .int (i32 v2)), (3, .int (i32 v3)), (4, .int (i32 (j 4))), (5, .int (i32 v5)), (6, .int (i32 (j 6))), (7, .int (i32 (j 7))), (8, .long (i64 (j 8)))], [], (mhp (mO m [] []) c, N), 0, 0) _
  refine P_ld 115 (.int (i32 0)) rfl (fun _ => rfl) ?_
  exact dg_findSame_115 w c N D bb v1 v2 v3 v5 0 q1 q2 q3 q5 (l32 0 rfl) m hm (jk [(4, j 4), (6, j 6), (7, j 7), (8, j 8)]) Q2 H1 H2
def rfb_findSame_20 (v1 : Int) (v2 : Int) (v3 : Int) (m : mR) (s : Int × Int) : Option (Sum (Int × Int) (Int)) :=
  if (m.2 51) v1 ≤ s.2 then
    some (.inr s.1)
  else
    bnd (rf_slot v1 v3 m) fun y6 =>
    bnd (rf_cut ((m.2 161) s.2) ((m.2 112) (cut ((cut (4 * v1)) + s.2)))) fun y8 =>
    if s.1 = 0 then
      rfl_findSame_114 v1 v2 v3 s.2 m
    else
      if cmp64 ((m.2 143) (cut ((cut (4 * y6)) + s.2))) y8 = 0 then
        if cmp64 ((m.2 142) (cut ((cut (4 * y6)) + s.2))) (and64 ((m.2 160) s.2) y8) = 0 then
          rfl_findSame_115 v1 v2 v3 s.2 1 m
        else
          rfl_findSame_114 v1 v2 v3 s.2 m
      else
        rfl_findSame_114 v1 v2 v3 s.2 m
theorem dh_findSame_20 (w : wX) (c : Nat → Option am_C) (N D : Nat) (v1 : Int) (v2 : Int) (v3 : Int) (q1 : R32 v1) (q2 : R32 v2) (q3 : R32 v3) (m : mR) (hm : Cn m) (bb : Nat) (Q2 : Sum (Int × Int) (Int) → ag_Re af_T → Prop) (H1 : ∀ s j, cs_findSame_20 s → PP bb w D pm_318 (hd_findSame_20 c N v1 v2 v3 m s j) (Q2 (.inl s))) (H2 : ∀ x j, cx_findSame_20 x → PP bb w D pm_318 (ex_findSame_20 c N v1 v2 v3 m x j) (Q2 (.inr x))) (s : Int × Int) (j : Nat → Int) (hs : cs_findSame_20 s) : PP (bb + 1) w D pm_318 (hd_findSame_20 c N v1 v2 v3 m s j) (QS Q2 (rfb_findSame_20 v1 v2 v3 m s)) := by
  obtain ⟨g4, g5⟩ := hs
  unfold rfb_findSame_20
  show PP (bb + 1) w D pm_318 (20, [(0, .ref 189), (1, .int (i32 v1)), (2, .int (i32 v2)), (3, .int (i32 v3)), (4, .int (i32 s.1)), (5, .int (i32 s.2)), (6, .int (i32 (j 6))), (7, .int (i32 (j 7))), (8, .long (i64 (j 8)))], [], (mhp (mO m [] []) c, N), 0, 0) _
  refine P1_ld 22 (.int (i32 s.2)) rfl (fun _ => rfl) ?_
  refine P_gf 26 (.ref 221) rfl rfl rfl rfl rfl rfl ?_
  refine P_ld 27 (.int (i32 v1)) rfl (fun _ => rfl) ?_
  refine P_iald2 28 51 (m.2 51) rfl rfl rfl q1 rfl ?_
  refine P_icF 123 31 rfl rfl rfl g5 (rE_i (Cn_a hm 51) rfl _) rfl (fun h5 => ?_) (fun h5 => ?_)
  · skip
    refine P_some ?_
    exact H2 s.1 (jk [(5, s.2), (6, j 6), (7, j 7), (8, j 8)]) g4
  · skip
    refine P_ld 32 (.int (i32 4)) rfl (fun _ => rfl) ?_
    refine P_ld 33 (.ref 189) rfl (fun _ => rfl) ?_
    refine P_ld 34 (.int (i32 v1)) rfl (fun _ => rfl) ?_
    refine P_ld 35 (.int (i32 v3)) rfl (fun _ => rfl) ?_
    refine P_cp1 38 319 [.ref 189, .int (i32 v1), .int (i32 v3)] [.int (i32 4)] rfl (fun _ => rfl) rfl (D_slot w m c N D hm v1 v3 q1 q3) (fun y6 h7 => ?_)
    refine P_op 39 (cut (4 * y6)) _ rfl (fun _ => rfl) o_mul ?_
    refine P_ld 41 (.int (i32 s.2)) rfl (fun _ => rfl) ?_
    refine P_op 42 (cut ((cut (4 * y6)) + s.2)) _ rfl (fun _ => rfl) o_add ?_
    refine P_sto 44 [(6, .int (i32 (cut ((cut (4 * y6)) + s.2)))), (0, .ref 189), (1, .int (i32 v1)), (2, .int (i32 v2)), (3, .int (i32 v3)), (4, .int (i32 s.1)), (5, .int (i32 s.2)), (7, .int (i32 (j 7))), (8, .long (i64 (j 8)))] rfl (fun _ => rfl) ?_
    refine P_gf 48 (.ref 272) rfl rfl rfl rfl rfl rfl ?_
    refine P_ld 49 (.int (i32 4)) rfl (fun _ => rfl) ?_
    refine P_ld 50 (.int (i32 v1)) rfl (fun _ => rfl) ?_
    refine P_op 51 (cut (4 * v1)) _ rfl (fun _ => rfl) o_mul ?_
    refine P_ld 53 (.int (i32 s.2)) rfl (fun _ => rfl) ?_
    refine P_op 54 (cut ((cut (4 * v1)) + s.2)) _ rfl (fun _ => rfl) o_add ?_
    refine P_iald2 55 112 (m.2 112) rfl rfl rfl cut_r rfl ?_
    refine P_sto 57 [(7, .int (i32 ((m.2 112) (cut ((cut (4 * v1)) + s.2))))), (6, .int (i32 (cut ((cut (4 * y6)) + s.2)))), (0, .ref 189), (1, .int (i32 v1)), (2, .int (i32 v2)), (3, .int (i32 v3)), (4, .int (i32 s.1)), (5, .int (i32 s.2)), (8, .long (i64 (j 8)))] rfl (fun _ => rfl) ?_
    refine P_gf 61 (.ref 310) rfl rfl rfl rfl rfl rfl ?_
    refine P_ld 63 (.int (i32 s.2)) rfl (fun _ => rfl) ?_
    refine P_lald2 64 161 (m.2 161) rfl rfl rfl g5 rfl ?_
    refine P_ld 66 (.int (i32 ((m.2 112) (cut ((cut (4 * v1)) + s.2))))) rfl (fun _ => rfl) ?_
    refine P_cp2 69 315 [.long (i64 ((m.2 161) s.2)), .int (i32 ((m.2 112) (cut ((cut (4 * v1)) + s.2))))] [] rfl (fun _ => rfl) rfl (D_cut w _ D ((m.2 161) s.2) ((m.2 112) (cut ((cut (4 * v1)) + s.2))) (rE_l (Cn_a hm 161) rfl _) (rE_i (Cn_a hm 112) rfl _)) (fun y8 h9 => ?_)
    refine P_sto 71 [(8, .long (i64 y8)), (7, .int (i32 ((m.2 112) (cut ((cut (4 * v1)) + s.2))))), (6, .int (i32 (cut ((cut (4 * y6)) + s.2)))), (0, .ref 189), (1, .int (i32 v1)), (2, .int (i32 v2)), (3, .int (i32 v3)), (4, .int (i32 s.1)), (5, .int (i32 s.2))] rfl (fun _ => rfl) ?_
    refine P_ld 73 (.int (i32 s.1)) rfl (fun _ => rfl) ?_
    refine P_ifF 114 76 rfl rfl rfl g4 rfl (fun h10 => ?_) (fun h10 => ?_)
    · skip
      refine P_lv (b := [(0, .ref 189), (1, .int (i32 v1)), (2, .int (i32 v2)), (3, .int (i32 v3)), (4, .int (i32 s.1)), (5, .int (i32 s.2)), (6, .int (i32 (cut ((cut (4 * y6)) + s.2)))), (7, .int (i32 ((m.2 112) (cut ((cut (4 * v1)) + s.2))))), (8, .long (i64 y8))]) rfl rfl ⟨rfl, rfl, rfl, rfl, rfl, rfl, rfl, rfl, rfl, trivial⟩ ?_
      exact dg_findSame_114 w c N D bb v1 v2 v3 s.2 q1 q2 q3 g5 m hm (jk [(4, s.1), (6, cut ((cut (4 * y6)) + s.2)), (7, (m.2 112) (cut ((cut (4 * v1)) + s.2))), (8, y8)]) Q2 H1 H2
    · skip
      refine P_gf 80 (.ref 297) rfl rfl rfl rfl rfl rfl ?_
      refine P_ld 82 (.int (i32 (cut ((cut (4 * y6)) + s.2)))) rfl (fun _ => rfl) ?_
      refine P_lald2 83 143 (m.2 143) rfl rfl rfl cut_r rfl ?_
      refine P_ld 85 (.long (i64 y8)) rfl (fun _ => rfl) ?_
      refine P_op 86 (cmp64 ((m.2 143) (cut ((cut (4 * y6)) + s.2))) y8) _ rfl (fun _ => rfl) (o_cmp (rE_l (Cn_a hm 143) rfl _) h9) ?_
      refine P_ifE 114 89 rfl rfl rfl cmp64_r rfl (fun h11 => ?_) (fun h11 => ?_)
      · skip
        refine P_gf 93 (.ref 296) rfl rfl rfl rfl rfl rfl ?_
        refine P_ld 95 (.int (i32 (cut ((cut (4 * y6)) + s.2)))) rfl (fun _ => rfl) ?_
        refine P_lald2 96 142 (m.2 142) rfl rfl rfl cut_r rfl ?_
        refine P_gf 100 (.ref 309) rfl rfl rfl rfl rfl rfl ?_
        refine P_ld 102 (.int (i32 s.2)) rfl (fun _ => rfl) ?_
        refine P_lald2 103 160 (m.2 160) rfl rfl rfl g5 rfl ?_
        refine P_ld 105 (.long (i64 y8)) rfl (fun _ => rfl) ?_
        refine P_opl 106 (and64 ((m.2 160) s.2) y8) _ rfl (fun _ => rfl) (Int64.ofInt_toInt _).symm ?_
        refine P_op 107 (cmp64 ((m.2 142) (cut ((cut (4 * y6)) + s.2))) (and64 ((m.2 160) s.2) y8)) _ rfl (fun _ => rfl) (o_cmp (rE_l (Cn_a hm 142) rfl _) t64_r) ?_
        refine P_ifE 114 110 rfl rfl rfl cmp64_r rfl (fun h12 => ?_) (fun h12 => ?_)
        · skip
          refine P_ld 111 (.int (i32 1)) rfl (fun _ => rfl) ?_
          refine P_goto 115 rfl (fun _ => rfl) ?_
          refine P_lv (b := [(0, .ref 189), (1, .int (i32 v1)), (2, .int (i32 v2)), (3, .int (i32 v3)), (4, .int (i32 s.1)), (5, .int (i32 s.2)), (6, .int (i32 (cut ((cut (4 * y6)) + s.2)))), (7, .int (i32 ((m.2 112) (cut ((cut (4 * v1)) + s.2))))), (8, .long (i64 y8))]) rfl rfl ⟨rfl, rfl, rfl, rfl, rfl, rfl, rfl, rfl, rfl, trivial⟩ ?_
          exact dg_findSame_115 w c N D bb v1 v2 v3 s.2 1 q1 q2 q3 g5 (l32 1 rfl) m hm (jk [(4, s.1), (6, cut ((cut (4 * y6)) + s.2)), (7, (m.2 112) (cut ((cut (4 * v1)) + s.2))), (8, y8)]) Q2 H1 H2
        · skip
          refine P_lv (b := [(0, .ref 189), (1, .int (i32 v1)), (2, .int (i32 v2)), (3, .int (i32 v3)), (4, .int (i32 s.1)), (5, .int (i32 s.2)), (6, .int (i32 (cut ((cut (4 * y6)) + s.2)))), (7, .int (i32 ((m.2 112) (cut ((cut (4 * v1)) + s.2))))), (8, .long (i64 y8))]) rfl rfl ⟨rfl, rfl, rfl, rfl, rfl, rfl, rfl, rfl, rfl, trivial⟩ ?_
          exact dg_findSame_114 w c N D bb v1 v2 v3 s.2 q1 q2 q3 g5 m hm (jk [(4, s.1), (6, cut ((cut (4 * y6)) + s.2)), (7, (m.2 112) (cut ((cut (4 * v1)) + s.2))), (8, y8)]) Q2 H1 H2
      · skip
        refine P_lv (b := [(0, .ref 189), (1, .int (i32 v1)), (2, .int (i32 v2)), (3, .int (i32 v3)), (4, .int (i32 s.1)), (5, .int (i32 s.2)), (6, .int (i32 (cut ((cut (4 * y6)) + s.2)))), (7, .int (i32 ((m.2 112) (cut ((cut (4 * v1)) + s.2))))), (8, .long (i64 y8))]) rfl rfl ⟨rfl, rfl, rfl, rfl, rfl, rfl, rfl, rfl, rfl, trivial⟩ ?_
        exact dg_findSame_114 w c N D bb v1 v2 v3 s.2 q1 q2 q3 g5 m hm (jk [(4, s.1), (6, cut ((cut (4 * y6)) + s.2)), (7, (m.2 112) (cut ((cut (4 * v1)) + s.2))), (8, y8)]) Q2 H1 H2
def rfb_findSame_4 (v1 : Int) (m : mR) (s : Int × Int) : Option (Sum (Int × Int) (Int)) :=
  if (m.2 139) v1 ≤ s.2 then
    some (.inr s.1)
  else
    bnd (whl (rfb_findSame_20 v1 s.1 s.2 m) (1, 0)) (fun e15 : Int =>
      rfl_findSame_123 v1 s.1 s.2 e15 m)
theorem dh_findSame_4 (w : wX) (c : Nat → Option am_C) (N D : Nat) (v1 : Int) (q1 : R32 v1) (m : mR) (hm : Cn m) (bb : Nat) (Q2 : Sum (Int × Int) (Int) → ag_Re af_T → Prop) (H1 : ∀ s j, cs_findSame_4 s → PP bb w D pm_318 (hd_findSame_4 c N v1 m s j) (Q2 (.inl s))) (H2 : ∀ x j, cx_findSame_4 x → PP bb w D pm_318 (ex_findSame_4 c N v1 m x j) (Q2 (.inr x))) (s : Int × Int) (j : Nat → Int) (hs : cs_findSame_4 s) : PP (bb + 1) w D pm_318 (hd_findSame_4 c N v1 m s j) (QS Q2 (rfb_findSame_4 v1 m s)) := by
  obtain ⟨g2, g3⟩ := hs
  unfold rfb_findSame_4
  show PP (bb + 1) w D pm_318 (4, [(0, .ref 189), (1, .int (i32 v1)), (2, .int (i32 s.1)), (3, .int (i32 s.2)), (4, .int (i32 (j 4))), (5, .int (i32 (j 5))), (6, .int (i32 (j 6))), (7, .int (i32 (j 7))), (8, .long (i64 (j 8)))], [], (mhp (mO m [] []) c, N), 0, 0) _
  refine P1_ld 5 (.int (i32 s.2)) rfl (fun _ => rfl) ?_
  refine P_gf 9 (.ref 293) rfl rfl rfl rfl rfl rfl ?_
  refine P_ld 10 (.int (i32 v1)) rfl (fun _ => rfl) ?_
  refine P_iald2 11 139 (m.2 139) rfl rfl rfl q1 rfl ?_
  refine P_icF 140 14 rfl rfl rfl g3 (rE_i (Cn_a hm 139) rfl _) rfl (fun h14 => ?_) (fun h14 => ?_)
  · skip
    refine P_some ?_
    exact H2 s.1 (jk [(1, v1), (3, s.2), (4, j 4), (5, j 5), (6, j 6), (7, j 7), (8, j 8)]) g2
  · skip
    refine P_ld 15 (.int (i32 1)) rfl (fun _ => rfl) ?_
    refine P_sto 17 [(4, .int (i32 1)), (0, .ref 189), (1, .int (i32 v1)), (2, .int (i32 s.1)), (3, .int (i32 s.2)), (5, .int (i32 (j 5))), (6, .int (i32 (j 6))), (7, .int (i32 (j 7))), (8, .long (i64 (j 8)))] rfl (fun _ => rfl) ?_
    refine P_ld 18 (.int (i32 0)) rfl (fun _ => rfl) ?_
    refine P_sto 20 [(5, .int (i32 0)), (4, .int (i32 1)), (0, .ref 189), (1, .int (i32 v1)), (2, .int (i32 s.1)), (3, .int (i32 s.2)), (6, .int (i32 (j 6))), (7, .int (i32 (j 7))), (8, .long (i64 (j 8)))] rfl (fun _ => rfl) ?_
    refine P_lv (b := [(0, .ref 189), (1, .int (i32 v1)), (2, .int (i32 s.1)), (3, .int (i32 s.2)), (4, .int (i32 1)), (5, .int (i32 0)), (6, .int (i32 (j 6))), (7, .int (i32 (j 7))), (8, .long (i64 (j 8)))]) rfl rfl ⟨rfl, rfl, rfl, rfl, rfl, rfl, rfl, rfl, rfl, trivial⟩ ?_
    refine P_bnd ?_
    refine P_whl (fun bb Q2 H1 H2 s9 j9 hs9 => dh_findSame_20 w c N D v1 s.1 s.2 q1 g2 g3 m hm bb Q2 H1 H2 s9 j9 hs9) bb (fun e15 j q16 => ?_) (1, 0) (jk [(6, j 6), (7, j 7), (8, j 8)]) ⟨(l32 1 rfl), (l32 0 rfl)⟩
    have q17 := q16
    show PP bb w D pm_318 (123, [(0, .ref 189), (1, .int (i32 v1)), (2, .int (i32 s.1)), (3, .int (i32 s.2)), (4, .int (i32 e15)), (5, .int (i32 (j 5))), (6, .int (i32 (j 6))), (7, .int (i32 (j 7))), (8, .long (i64 (j 8)))], [], (mhp (mO m [] []) c, N), 0, 0) (QS _ (rfl_findSame_123 v1 s.1 s.2 e15 m))
    exact dg_findSame_123 w c N D bb v1 s.1 s.2 e15 q1 g2 g3 q17 m hm (jk [(5, j 5), (6, j 6), (7, j 7), (8, j 8)]) Q2 H1 H2
def rf_findSame (v1 : Int) (m : mR) : Option Int :=
  bnd (whl (rfb_findSame_4 v1 m) ((-1), 0)) (fun e18 : Int =>
    some e18)
theorem D_findSame (w : wX) (m : mR) (c : Nat → Option am_C) (N D : Nat) (hm : Cn m) (v1 : Int) (q1 : R32 v1) : PC w D 318 [.ref 189, .int (i32 v1)] (mhp m c, N) (QS (FP1 (mhp m c, N)) (rf_findSame v1 m)) := by
  refine Pc_of (fun D bb => ?_) D
  unfold rf_findSame
  show PP bb w D pm_318 (0, [(0, .ref 189), (1, .int (i32 v1))], [], (mhp (mO m [] []) c, N), 0, 0) _
  refine P_ld 1 (.int (i32 (-1))) rfl (fun _ => rfl) ?_
  refine P_sto 2 [(2, .int (i32 (-1))), (0, .ref 189), (1, .int (i32 v1))] rfl (fun _ => rfl) ?_
  refine P_ld 3 (.int (i32 0)) rfl (fun _ => rfl) ?_
  refine P_sto 4 [(3, .int (i32 0)), (2, .int (i32 (-1))), (0, .ref 189), (1, .int (i32 v1))] rfl (fun _ => rfl) ?_
  refine P_lv (b := [(0, .ref 189), (1, .int (i32 v1)), (2, .int (i32 (-1))), (3, .int (i32 0)), (4, .int (i32 0)), (5, .int (i32 0)), (6, .int (i32 0)), (7, .int (i32 0)), (8, .long (i64 0))]) rfl rfl ⟨rfl, rfl, rfl, rfl, trivial⟩ ?_
  refine P_bnd ?_
  refine P_whl (fun bb Q2 H1 H2 s9 j9 hs9 => dh_findSame_4 w c N D v1 q1 m hm bb Q2 H1 H2 s9 j9 hs9) bb (fun e18 j q19 => ?_) ((-1), 0) (jk []) ⟨(l32 (-1) rfl), (l32 0 rfl)⟩
  have q20 := q19
  show PP bb w D pm_318 (140, [(0, .ref 189), (1, .int (i32 (j 1))), (2, .int (i32 e18)), (3, .int (i32 (j 3))), (4, .int (i32 (j 4))), (5, .int (i32 (j 5))), (6, .int (i32 (j 6))), (7, .int (i32 (j 7))), (8, .long (i64 (j 8)))], [], (mhp (mO m [] []) c, N), 0, 0) (QS _ (some e18))
  refine P_ld 141 (.int (i32 e18)) rfl (fun _ => rfl) ?_
  exact P_rp1 rfl q20
def cs_putAction_22 (s : Int × mR) : Prop := R32 s.1 ∧ Cn s.2
def cx_putAction_22 : (mR) → Prop := (fun (e : mR) => Cn e)
def hd_putAction_22 (c : Nat → Option am_C) (N : Nat) (v1 : Int) (v2 : Int) (v3 : Int) (s : Int × mR) (j : Nat → Int) : ag_St af_T := (22, [(0, .ref 189), (1, .int (i32 v1)), (2, .int (i32 v2)), (3, .int (i32 v3)), (4, .int (i32 s.1))], [], (mhp s.2 c, N), 0, 0)
def ex_putAction_22 (c : Nat → Option am_C) (N : Nat) (v1 : Int) (v2 : Int) (v3 : Int) : (mR) → (Nat → Int) → ag_St af_T := (fun (e : mR) (j : Nat → Int) => ((86, [(0, .ref 189), (1, .int (i32 (j 1))), (2, .int (i32 (j 2))), (3, .int (i32 (j 3))), (4, .int (i32 (j 4)))], [], (mhp e c, N), 0, 0) : ag_St af_T))
def rfl_putAction_79 (v1 : Int) (v2 : Int) (v3 : Int) (v4 : Int) (u1 : Int) (u2 : Int) (m : mR) : Option (Sum (Int × mR) (mR)) :=
  some (.inl (cut (v4 + 1), (mO m [] [(144, upI (m.2 144) u1 u2)])))
theorem dg_putAction_79 (w : wX) (c : Nat → Option am_C) (N D : Nat) (bb : Nat) (v1 : Int) (v2 : Int) (v3 : Int) (v4 : Int) (u1 : Int) (u2 : Int) (q1 : R32 v1) (q2 : R32 v2) (q3 : R32 v3) (q4 : R32 v4) (r1 : R32 u1) (r2 : R64 u2) (m : mR) (hm : Cn m) (j : Nat → Int) (Q2 : Sum (Int × mR) (mR) → ag_Re af_T → Prop) (H1 : ∀ s j, cs_putAction_22 s → PP bb w D pm_320 (hd_putAction_22 c N v1 v2 v3 s j) (Q2 (.inl s))) (H2 : ∀ x j, cx_putAction_22 x → PP bb w D pm_320 (ex_putAction_22 c N v1 v2 v3 x j) (Q2 (.inr x))) : PP bb w D pm_320 (79, [(0, .ref 189), (1, .int (i32 v1)), (2, .int (i32 v2)), (3, .int (i32 v3)), (4, .int (i32 v4))], [.long (i64 u2), .int (i32 u1), .ref 298], (mhp m c, N), 0, 0) (QS Q2 (rfl_putAction_79 v1 v2 v3 v4 u1 u2 m)) := by
  unfold rfl_putAction_79
  show PP bb w D pm_320 (79, [(0, .ref 189), (1, .int (i32 v1)), (2, .int (i32 v2)), (3, .int (i32 v3)), (4, .int (i32 v4))], [.long (i64 u2), .int (i32 u1), .ref 298], (mhp (mO m [] []) c, N), 0, 0) _
  refine P_last2 (a' := [(144, upI (m.2 144) u1 u2)]) 80 144 (m.2 144) rfl rfl rfl r1 rfl rfl ?_
  refine P_inc 83 [(4, .int (i32 (cut (v4 + 1)))), (0, .ref 189), (1, .int (i32 v1)), (2, .int (i32 v2)), (3, .int (i32 v3))] rfl rfl (by decide) rfl rfl ?_
  refine P_goto 22 rfl (fun _ => rfl) ?_
  refine P_some ?_
  refine P_lv (b := [(0, .ref 189), (1, .int (i32 v1)), (2, .int (i32 v2)), (3, .int (i32 v3)), (4, .int (i32 (cut (v4 + 1))))]) rfl rfl ⟨rfl, rfl, rfl, rfl, rfl, trivial⟩ ?_
  exact H1 (cut (v4 + 1), (mO m [] [(144, upI (m.2 144) u1 u2)])) (jk []) ⟨cut_r, (Cn_mO hm trivial ⟨(rE_ul (Cn_a hm 144) rfl r2), trivial⟩)⟩
def rfb_putAction_22 (v1 : Int) (v2 : Int) (v3 : Int) (s : Int × mR) : Option (Sum (Int × mR) (mR)) :=
  if (4 : Int) ≤ s.1 then
    some (.inr s.2)
  else
    bnd (rf_slot v1 v2 s.2) fun y4 =>
    if (s.2.2 46) v3 ≤ s.1 then
      rfl_putAction_79 v1 v2 v3 s.1 (cut ((cut (4 * y4)) + s.1)) 0 s.2
    else
      bnd (rf_cut ((s.2.2 162) s.1) ((s.2.2 49) (cut ((cut (4 * v3)) + s.1)))) fun y7 =>
      rfl_putAction_79 v1 v2 v3 s.1 (cut ((cut (4 * y4)) + s.1)) y7 s.2
theorem dh_putAction_22 (w : wX) (c : Nat → Option am_C) (N D : Nat) (v1 : Int) (v2 : Int) (v3 : Int) (q1 : R32 v1) (q2 : R32 v2) (q3 : R32 v3) (bb : Nat) (Q2 : Sum (Int × mR) (mR) → ag_Re af_T → Prop) (H1 : ∀ s j, cs_putAction_22 s → PP bb w D pm_320 (hd_putAction_22 c N v1 v2 v3 s j) (Q2 (.inl s))) (H2 : ∀ x j, cx_putAction_22 x → PP bb w D pm_320 (ex_putAction_22 c N v1 v2 v3 x j) (Q2 (.inr x))) (s : Int × mR) (j : Nat → Int) (hs : cs_putAction_22 s) : PP (bb + 1) w D pm_320 (hd_putAction_22 c N v1 v2 v3 s j) (QS Q2 (rfb_putAction_22 v1 v2 v3 s)) := by
  obtain ⟨g4, gm⟩ := hs
  unfold rfb_putAction_22
  show PP (bb + 1) w D pm_320 (22, [(0, .ref 189), (1, .int (i32 v1)), (2, .int (i32 v2)), (3, .int (i32 v3)), (4, .int (i32 s.1))], [], (mhp (mO s.2 [] []) c, N), 0, 0) _
  refine P1_ld 24 (.int (i32 s.1)) rfl (fun _ => rfl) ?_
  refine P_ld 25 (.int (i32 4)) rfl (fun _ => rfl) ?_
  refine P_icF 86 28 rfl rfl rfl g4 (l32 4 rfl) rfl (fun h3 => ?_) (fun h3 => ?_)
  · skip
    refine P_some ?_
    exact H2 s.2 (jk [(1, v1), (2, v2), (3, v3), (4, s.1)]) gm
  · skip
    refine P_gf 32 (.ref 298) rfl rfl rfl rfl rfl rfl ?_
    refine P_ld 33 (.int (i32 4)) rfl (fun _ => rfl) ?_
    refine P_ld 34 (.ref 189) rfl (fun _ => rfl) ?_
    refine P_ld 35 (.int (i32 v1)) rfl (fun _ => rfl) ?_
    refine P_ld 36 (.int (i32 v2)) rfl (fun _ => rfl) ?_
    refine P_cp1 39 319 [.ref 189, .int (i32 v1), .int (i32 v2)] [.int (i32 4), .ref 298] rfl (fun _ => rfl) rfl (D_slot w s.2 c N D gm v1 v2 q1 q2) (fun y4 h5 => ?_)
    refine P_op 40 (cut (4 * y4)) _ rfl (fun _ => rfl) o_mul ?_
    refine P_ld 42 (.int (i32 s.1)) rfl (fun _ => rfl) ?_
    refine P_op 43 (cut ((cut (4 * y4)) + s.1)) _ rfl (fun _ => rfl) o_add ?_
    refine P_ld 45 (.int (i32 s.1)) rfl (fun _ => rfl) ?_
    refine P_gf 49 (.ref 216) rfl rfl rfl rfl rfl rfl ?_
    refine P_ld 50 (.int (i32 v3)) rfl (fun _ => rfl) ?_
    refine P_iald2 51 46 (s.2.2 46) rfl rfl rfl q3 rfl ?_
    refine P_icF 78 54 rfl rfl rfl g4 (rE_i (Cn_a gm 46) rfl _) rfl (fun h6 => ?_) (fun h6 => ?_)
    · skip
      refine P_ld 79 (.long (i64 0)) rfl (fun _ => rfl) ?_
      exact dg_putAction_79 w c N D bb v1 v2 v3 s.1 (cut ((cut (4 * y4)) + s.1)) 0 q1 q2 q3 g4 cut_r (l64 0 rfl) s.2 gm (jk []) Q2 H1 H2
    · skip
      refine P_gf 58 (.ref 311) rfl rfl rfl rfl rfl rfl ?_
      refine P_ld 60 (.int (i32 s.1)) rfl (fun _ => rfl) ?_
      refine P_lald2 61 162 (s.2.2 162) rfl rfl rfl g4 rfl ?_
      refine P_gf 65 (.ref 219) rfl rfl rfl rfl rfl rfl ?_
      refine P_ld 66 (.int (i32 4)) rfl (fun _ => rfl) ?_
      refine P_ld 67 (.int (i32 v3)) rfl (fun _ => rfl) ?_
      refine P_op 68 (cut (4 * v3)) _ rfl (fun _ => rfl) o_mul ?_
      refine P_ld 70 (.int (i32 s.1)) rfl (fun _ => rfl) ?_
      refine P_op 71 (cut ((cut (4 * v3)) + s.1)) _ rfl (fun _ => rfl) o_add ?_
      refine P_iald2 72 49 (s.2.2 49) rfl rfl rfl cut_r rfl ?_
      refine P_cp2 75 315 [.long (i64 ((s.2.2 162) s.1)), .int (i32 ((s.2.2 49) (cut ((cut (4 * v3)) + s.1))))] [.int (i32 (cut ((cut (4 * y4)) + s.1))), .ref 298] rfl (fun _ => rfl) rfl (D_cut w _ D ((s.2.2 162) s.1) ((s.2.2 49) (cut ((cut (4 * v3)) + s.1))) (rE_l (Cn_a gm 162) rfl _) (rE_i (Cn_a gm 49) rfl _)) (fun y7 h8 => ?_)
      refine P_goto 79 rfl (fun _ => rfl) ?_
      exact dg_putAction_79 w c N D bb v1 v2 v3 s.1 (cut ((cut (4 * y4)) + s.1)) y7 q1 q2 q3 g4 cut_r h8 s.2 gm (jk []) Q2 H1 H2
def rf_putAction (v1 : Int) (v2 : Int) (m : mR) : Option (Int × mR) :=
  bnd (rf_slot v1 v2 m) fun y9 =>
  bnd (whl (rfb_putAction_22 v1 v2 ((m.2 158) 0)) (0, (mO m [] [(141, upI (m.2 141) y9 ((m.2 158) 0))]))) (fun e11 : mR =>
    some (0, e11))
theorem D_putAction (w : wX) (m : mR) (c : Nat → Option am_C) (N D : Nat) (hm : Cn m) (v1 : Int) (v2 : Int) (q1 : R32 v1) (q2 : R32 v2) : PC w D 320 [.ref 189, .int (i32 v1), .int (i32 v2)] (mhp m c, N) (QS (FR0 c N) (rf_putAction v1 v2 m)) := by
  refine Pc_of (fun D bb => ?_) D
  unfold rf_putAction
  show PP bb w D pm_320 (0, [(0, .ref 189), (1, .int (i32 v1)), (2, .int (i32 v2))], [], (mhp (mO m [] []) c, N), 0, 0) _
  refine P_gf 4 (.ref 307) rfl rfl rfl rfl rfl rfl ?_
  refine P_ld 5 (.int (i32 0)) rfl (fun _ => rfl) ?_
  refine P_iald2 6 158 (m.2 158) rfl rfl rfl (l32 0 rfl) rfl ?_
  refine P_sto 7 [(3, .int (i32 ((m.2 158) 0))), (0, .ref 189), (1, .int (i32 v1)), (2, .int (i32 v2))] rfl (fun _ => rfl) ?_
  refine P_gf 11 (.ref 295) rfl rfl rfl rfl rfl rfl ?_
  refine P_ld 12 (.ref 189) rfl (fun _ => rfl) ?_
  refine P_ld 13 (.int (i32 v1)) rfl (fun _ => rfl) ?_
  refine P_ld 14 (.int (i32 v2)) rfl (fun _ => rfl) ?_
  refine P_cp1 17 319 [.ref 189, .int (i32 v1), .int (i32 v2)] [.ref 295] rfl (fun _ => rfl) rfl (D_slot w m c N D hm v1 v2 q1 q2) (fun y9 h10 => ?_)
  refine P_ld 18 (.int (i32 ((m.2 158) 0))) rfl (fun _ => rfl) ?_
  refine P_iast2 (a' := [(141, upI (m.2 141) y9 ((m.2 158) 0))]) 19 141 (m.2 141) rfl rfl rfl h10 rfl rfl ?_
  refine P_ld 20 (.int (i32 0)) rfl (fun _ => rfl) ?_
  refine P_sto 22 [(4, .int (i32 0)), (3, .int (i32 ((m.2 158) 0))), (0, .ref 189), (1, .int (i32 v1)), (2, .int (i32 v2))] rfl (fun _ => rfl) ?_
  refine P_lv (b := [(0, .ref 189), (1, .int (i32 v1)), (2, .int (i32 v2)), (3, .int (i32 ((m.2 158) 0))), (4, .int (i32 0))]) rfl rfl ⟨rfl, rfl, rfl, rfl, rfl, trivial⟩ ?_
  refine P_bnd ?_
  refine P_whl (fun bb Q2 H1 H2 s9 j9 hs9 => dh_putAction_22 w c N D v1 v2 ((m.2 158) 0) q1 q2 (rE_i (Cn_a hm 158) rfl _) bb Q2 H1 H2 s9 j9 hs9) bb (fun e11 j q12 => ?_) (0, (mO m [] [(141, upI (m.2 141) y9 ((m.2 158) 0))])) (jk []) ⟨(l32 0 rfl), (Cn_mO hm trivial ⟨(rE_ui (Cn_a hm 141) rfl (rE_i (Cn_a hm 158) rfl _)), trivial⟩)⟩
  have q13 := q12
  show PP bb w D pm_320 (86, [(0, .ref 189), (1, .int (i32 (j 1))), (2, .int (i32 (j 2))), (3, .int (i32 (j 3))), (4, .int (i32 (j 4)))], [], (mhp (mO e11 [] []) c, N), 0, 0) (QS _ (some (0, e11)))
  exact P_re0 rfl rfl q13
def cs_bucket_5 (s : Int × Int) : Prop := R64 s.1 ∧ R32 s.2
def cx_bucket_5 : (Int) → Prop := (fun (e : Int) => R64 e)
def hd_bucket_5 (c : Nat → Option am_C) (N : Nat) (v1 : Int) (v2 : Int) (m : mR) (s : Int × Int) (j : Nat → Int) : ag_St af_T := (5, [(0, .ref 189), (1, .int (i32 v1)), (2, .int (i32 v2)), (3, .long (i64 s.1)), (5, .int (i32 s.2)), (6, .long (i64 (j 6)))], [], (mhp m c, N), 0, 0)
def ex_bucket_5 (c : Nat → Option am_C) (N : Nat) (v1 : Int) (v2 : Int) (m : mR) : (Int) → (Nat → Int) → ag_St af_T := (fun (e : Int) (j : Nat → Int) => ((61, [(0, .ref 189), (1, .int (i32 v1)), (2, .int (i32 (j 2))), (3, .long (i64 e)), (5, .int (i32 (j 5))), (6, .long (i64 (j 6)))], [], (mhp m c, N), 0, 0) : ag_St af_T))
def rfl_bucket_61 (v1 : Int) (v3 : Int) (m : mR) : Option Int :=
  some (and32 (cut (xor64 (xor64 v3 (ushr64 v3 20)) (ushr64 v3 7))) (cut (((m.2 54) v1) - 1)))
theorem dg_bucket_61 (w : wX) (c : Nat → Option am_C) (N D : Nat) (bb : Nat) (v1 : Int) (v3 : Int) (q1 : R32 v1) (q3 : R64 v3) (m : mR) (hm : Cn m) (j : Nat → Int) : PP bb w D pm_322 (61, [(0, .ref 189), (1, .int (i32 v1)), (2, .int (i32 (j 2))), (3, .long (i64 v3)), (5, .int (i32 (j 5))), (6, .long (i64 (j 6)))], [], (mhp m c, N), 0, 0) (QS (FP1 (mhp m c, N)) (rfl_bucket_61 v1 v3 m)) := by
  unfold rfl_bucket_61
  show PP bb w D pm_322 (61, [(0, .ref 189), (1, .int (i32 v1)), (2, .int (i32 (j 2))), (3, .long (i64 v3)), (5, .int (i32 (j 5))), (6, .long (i64 (j 6)))], [], (mhp (mO m [] []) c, N), 0, 0) _
  refine P_ld 62 (.long (i64 v3)) rfl (fun _ => rfl) ?_
  refine P_ld 63 (.long (i64 v3)) rfl (fun _ => rfl) ?_
  refine P_ld 65 (.int (i32 20)) rfl (fun _ => rfl) ?_
  refine P_opl 66 (ushr64 v3 20) _ rfl (fun _ => rfl) (Int64.ofInt_toInt _).symm ?_
  refine P_opl 67 (xor64 v3 (ushr64 v3 20)) _ rfl (fun _ => rfl) (Int64.ofInt_toInt _).symm ?_
  refine P_ld 68 (.long (i64 v3)) rfl (fun _ => rfl) ?_
  refine P_ld 70 (.int (i32 7)) rfl (fun _ => rfl) ?_
  refine P_opl 71 (ushr64 v3 7) _ rfl (fun _ => rfl) (Int64.ofInt_toInt _).symm ?_
  refine P_opl 72 (xor64 (xor64 v3 (ushr64 v3 20)) (ushr64 v3 7)) _ rfl (fun _ => rfl) (Int64.ofInt_toInt _).symm ?_
  refine P_op 73 (cut (xor64 (xor64 v3 (ushr64 v3 20)) (ushr64 v3 7))) _ rfl (fun _ => rfl) o_l2i ?_
  refine P_gf 77 (.ref 224) rfl rfl rfl rfl rfl rfl ?_
  refine P_ld 78 (.int (i32 v1)) rfl (fun _ => rfl) ?_
  refine P_iald2 79 54 (m.2 54) rfl rfl rfl q1 rfl ?_
  refine P_ld 80 (.int (i32 1)) rfl (fun _ => rfl) ?_
  refine P_op 81 (cut (((m.2 54) v1) - 1)) _ rfl (fun _ => rfl) o_sub ?_
  refine P_op 82 (and32 (cut (xor64 (xor64 v3 (ushr64 v3 20)) (ushr64 v3 7))) (cut (((m.2 54) v1) - 1))) _ rfl (fun _ => rfl) (i32_of _).symm ?_
  exact P_rp1 rfl t32_r
def rfb_bucket_5 (v1 : Int) (v2 : Int) (m : mR) (s : Int × Int) : Option (Sum (Int × Int) (Int)) :=
  if (m.2 51) v1 ≤ s.2 then
    some (.inr s.1)
  else
    bnd (rf_slot v1 v2 m) fun y4 =>
    some (.inl (cutl ((cutl (31 * s.1)) + (xor64 (xor64 ((m.2 142) (cut ((cut (4 * y4)) + s.2))) (ushr64 ((m.2 142) (cut ((cut (4 * y4)) + s.2))) 32)) (ushr64 ((m.2 142) (cut ((cut (4 * y4)) + s.2))) 17))), cut (s.2 + 1)))
theorem dh_bucket_5 (w : wX) (c : Nat → Option am_C) (N D : Nat) (v1 : Int) (v2 : Int) (q1 : R32 v1) (q2 : R32 v2) (m : mR) (hm : Cn m) (bb : Nat) (Q2 : Sum (Int × Int) (Int) → ag_Re af_T → Prop) (H1 : ∀ s j, cs_bucket_5 s → PP bb w D pm_322 (hd_bucket_5 c N v1 v2 m s j) (Q2 (.inl s))) (H2 : ∀ x j, cx_bucket_5 x → PP bb w D pm_322 (ex_bucket_5 c N v1 v2 m x j) (Q2 (.inr x))) (s : Int × Int) (j : Nat → Int) (hs : cs_bucket_5 s) : PP (bb + 1) w D pm_322 (hd_bucket_5 c N v1 v2 m s j) (QS Q2 (rfb_bucket_5 v1 v2 m s)) := by
  obtain ⟨g3, g5⟩ := hs
  unfold rfb_bucket_5
  show PP (bb + 1) w D pm_322 (5, [(0, .ref 189), (1, .int (i32 v1)), (2, .int (i32 v2)), (3, .long (i64 s.1)), (5, .int (i32 s.2)), (6, .long (i64 (j 6)))], [], (mhp (mO m [] []) c, N), 0, 0) _
  refine P1_ld 7 (.int (i32 s.2)) rfl (fun _ => rfl) ?_
  refine P_gf 11 (.ref 221) rfl rfl rfl rfl rfl rfl ?_
  refine P_ld 12 (.int (i32 v1)) rfl (fun _ => rfl) ?_
  refine P_iald2 13 51 (m.2 51) rfl rfl rfl q1 rfl ?_
  refine P_icF 61 16 rfl rfl rfl g5 (rE_i (Cn_a hm 51) rfl _) rfl (fun h3 => ?_) (fun h3 => ?_)
  · skip
    refine P_some ?_
    exact H2 s.1 (jk [(2, v2), (5, s.2), (6, j 6)]) g3
  · skip
    refine P_gf 20 (.ref 296) rfl rfl rfl rfl rfl rfl ?_
    refine P_ld 21 (.int (i32 4)) rfl (fun _ => rfl) ?_
    refine P_ld 22 (.ref 189) rfl (fun _ => rfl) ?_
    refine P_ld 23 (.int (i32 v1)) rfl (fun _ => rfl) ?_
    refine P_ld 24 (.int (i32 v2)) rfl (fun _ => rfl) ?_
    refine P_cp1 27 319 [.ref 189, .int (i32 v1), .int (i32 v2)] [.int (i32 4), .ref 296] rfl (fun _ => rfl) rfl (D_slot w m c N D hm v1 v2 q1 q2) (fun y4 h5 => ?_)
    refine P_op 28 (cut (4 * y4)) _ rfl (fun _ => rfl) o_mul ?_
    refine P_ld 30 (.int (i32 s.2)) rfl (fun _ => rfl) ?_
    refine P_op 31 (cut ((cut (4 * y4)) + s.2)) _ rfl (fun _ => rfl) o_add ?_
    refine P_lald2 32 142 (m.2 142) rfl rfl rfl cut_r rfl ?_
    refine P_sto 34 [(6, .long (i64 ((m.2 142) (cut ((cut (4 * y4)) + s.2))))), (0, .ref 189), (1, .int (i32 v1)), (2, .int (i32 v2)), (3, .long (i64 s.1)), (5, .int (i32 s.2))] rfl (fun _ => rfl) ?_
    refine P_ld 37 (.long (i64 31)) rfl (fun _ => rfl) ?_
    refine P_ld 38 (.long (i64 s.1)) rfl (fun _ => rfl) ?_
    refine P_opl 39 (cutl (31 * s.1)) _ rfl (fun _ => rfl) p_mul ?_
    refine P_ld 41 (.long (i64 ((m.2 142) (cut ((cut (4 * y4)) + s.2))))) rfl (fun _ => rfl) ?_
    refine P_ld 43 (.long (i64 ((m.2 142) (cut ((cut (4 * y4)) + s.2))))) rfl (fun _ => rfl) ?_
    refine P_ld 45 (.int (i32 32)) rfl (fun _ => rfl) ?_
    refine P_opl 46 (ushr64 ((m.2 142) (cut ((cut (4 * y4)) + s.2))) 32) _ rfl (fun _ => rfl) (Int64.ofInt_toInt _).symm ?_
    refine P_opl 47 (xor64 ((m.2 142) (cut ((cut (4 * y4)) + s.2))) (ushr64 ((m.2 142) (cut ((cut (4 * y4)) + s.2))) 32)) _ rfl (fun _ => rfl) (Int64.ofInt_toInt _).symm ?_
    refine P_ld 49 (.long (i64 ((m.2 142) (cut ((cut (4 * y4)) + s.2))))) rfl (fun _ => rfl) ?_
    refine P_ld 51 (.int (i32 17)) rfl (fun _ => rfl) ?_
    refine P_opl 52 (ushr64 ((m.2 142) (cut ((cut (4 * y4)) + s.2))) 17) _ rfl (fun _ => rfl) (Int64.ofInt_toInt _).symm ?_
    refine P_opl 53 (xor64 (xor64 ((m.2 142) (cut ((cut (4 * y4)) + s.2))) (ushr64 ((m.2 142) (cut ((cut (4 * y4)) + s.2))) 32)) (ushr64 ((m.2 142) (cut ((cut (4 * y4)) + s.2))) 17)) _ rfl (fun _ => rfl) (Int64.ofInt_toInt _).symm ?_
    refine P_opl 54 (cutl ((cutl (31 * s.1)) + (xor64 (xor64 ((m.2 142) (cut ((cut (4 * y4)) + s.2))) (ushr64 ((m.2 142) (cut ((cut (4 * y4)) + s.2))) 32)) (ushr64 ((m.2 142) (cut ((cut (4 * y4)) + s.2))) 17)))) _ rfl (fun _ => rfl) p_add ?_
    refine P_sto 55 [(3, .long (i64 (cutl ((cutl (31 * s.1)) + (xor64 (xor64 ((m.2 142) (cut ((cut (4 * y4)) + s.2))) (ushr64 ((m.2 142) (cut ((cut (4 * y4)) + s.2))) 32)) (ushr64 ((m.2 142) (cut ((cut (4 * y4)) + s.2))) 17)))))), (6, .long (i64 ((m.2 142) (cut ((cut (4 * y4)) + s.2))))), (0, .ref 189), (1, .int (i32 v1)), (2, .int (i32 v2)), (5, .int (i32 s.2))] rfl (fun _ => rfl) ?_
    refine P_inc 58 [(5, .int (i32 (cut (s.2 + 1)))), (3, .long (i64 (cutl ((cutl (31 * s.1)) + (xor64 (xor64 ((m.2 142) (cut ((cut (4 * y4)) + s.2))) (ushr64 ((m.2 142) (cut ((cut (4 * y4)) + s.2))) 32)) (ushr64 ((m.2 142) (cut ((cut (4 * y4)) + s.2))) 17)))))), (6, .long (i64 ((m.2 142) (cut ((cut (4 * y4)) + s.2))))), (0, .ref 189), (1, .int (i32 v1)), (2, .int (i32 v2))] rfl rfl (by decide) rfl rfl ?_
    refine P_goto 5 rfl (fun _ => rfl) ?_
    refine P_some ?_
    refine P_lv (b := [(0, .ref 189), (1, .int (i32 v1)), (2, .int (i32 v2)), (3, .long (i64 (cutl ((cutl (31 * s.1)) + (xor64 (xor64 ((m.2 142) (cut ((cut (4 * y4)) + s.2))) (ushr64 ((m.2 142) (cut ((cut (4 * y4)) + s.2))) 32)) (ushr64 ((m.2 142) (cut ((cut (4 * y4)) + s.2))) 17)))))), (5, .int (i32 (cut (s.2 + 1)))), (6, .long (i64 ((m.2 142) (cut ((cut (4 * y4)) + s.2)))))]) rfl rfl ⟨rfl, rfl, rfl, rfl, rfl, rfl, trivial⟩ ?_
    exact H1 (cutl ((cutl (31 * s.1)) + (xor64 (xor64 ((m.2 142) (cut ((cut (4 * y4)) + s.2))) (ushr64 ((m.2 142) (cut ((cut (4 * y4)) + s.2))) 32)) (ushr64 ((m.2 142) (cut ((cut (4 * y4)) + s.2))) 17))), cut (s.2 + 1)) (jk [(6, (m.2 142) (cut ((cut (4 * y4)) + s.2)))]) ⟨cutl_r, cut_r⟩
def rf_bucket (v1 : Int) (v2 : Int) (m : mR) : Option Int :=
  bnd (whl (rfb_bucket_5 v1 v2 m) (0, 0)) (fun e6 : Int =>
    rfl_bucket_61 v1 e6 m)
theorem D_bucket (w : wX) (m : mR) (c : Nat → Option am_C) (N D : Nat) (hm : Cn m) (v1 : Int) (v2 : Int) (q1 : R32 v1) (q2 : R32 v2) : PC w D 322 [.ref 189, .int (i32 v1), .int (i32 v2)] (mhp m c, N) (QS (FP1 (mhp m c, N)) (rf_bucket v1 v2 m)) := by
  refine Pc_of (fun D bb => ?_) D
  unfold rf_bucket
  show PP bb w D pm_322 (0, [(0, .ref 189), (1, .int (i32 v1)), (2, .int (i32 v2))], [], (mhp (mO m [] []) c, N), 0, 0) _
  refine P_ld 1 (.long (i64 0)) rfl (fun _ => rfl) ?_
  refine P_sto 2 [(3, .long (i64 0)), (0, .ref 189), (1, .int (i32 v1)), (2, .int (i32 v2))] rfl (fun _ => rfl) ?_
  refine P_ld 3 (.int (i32 0)) rfl (fun _ => rfl) ?_
  refine P_sto 5 [(5, .int (i32 0)), (3, .long (i64 0)), (0, .ref 189), (1, .int (i32 v1)), (2, .int (i32 v2))] rfl (fun _ => rfl) ?_
  refine P_lv (b := [(0, .ref 189), (1, .int (i32 v1)), (2, .int (i32 v2)), (3, .long (i64 0)), (5, .int (i32 0)), (6, .long (i64 0))]) rfl rfl ⟨rfl, rfl, rfl, rfl, rfl, trivial⟩ ?_
  refine P_bnd ?_
  refine P_whl (fun bb Q2 H1 H2 s9 j9 hs9 => dh_bucket_5 w c N D v1 v2 q1 q2 m hm bb Q2 H1 H2 s9 j9 hs9) bb (fun e6 j q7 => ?_) (0, 0) (jk []) ⟨(l64 0 rfl), (l32 0 rfl)⟩
  have q8 := q7
  show PP bb w D pm_322 (61, [(0, .ref 189), (1, .int (i32 v1)), (2, .int (i32 (j 2))), (3, .long (i64 e6)), (5, .int (i32 (j 5))), (6, .long (i64 (j 6)))], [], (mhp (mO m [] []) c, N), 0, 0) (QS _ (rfl_bucket_61 v1 e6 m))
  exact dg_bucket_61 w c N D bb v1 e6 q1 q8 m hm (jk [(2, j 2), (5, j 5), (6, j 6)])
def cs_above_13 (s : Int × mR) : Prop := R32 s.1 ∧ Cn s.2
def cx_above_13 : (mR) → Prop := (fun (e : mR) => Cn e)
def hd_above_13 (c : Nat → Option am_C) (N : Nat) (v1 : Int) (s : Int × mR) (j : Nat → Int) : ag_St af_T := (13, [(0, .ref 189), (1, .int (i32 v1)), (2, .int (i32 s.1))], [], (mhp s.2 c, N), 0, 0)
def ex_above_13 (c : Nat → Option am_C) (N : Nat) (v1 : Int) : (mR) → (Nat → Int) → ag_St af_T := (fun (e : mR) (j : Nat → Int) => ((32, [(0, .ref 189), (1, .int (i32 v1)), (2, .int (i32 (j 2)))], [], (mhp e c, N), 0, 0) : ag_St af_T))
def cs_above_36 (s : Int × Int × mR) : Prop := R32 s.1 ∧ R32 s.2.1 ∧ Cn s.2.2
def cx_above_36 : (Int × mR) → Prop := (fun (e : Int × mR) => R32 e.1 ∧ Cn e.2)
def hd_above_36 (c : Nat → Option am_C) (N : Nat) (v1 : Int) (s : Int × Int × mR) (j : Nat → Int) : ag_St af_T := (36, [(0, .ref 189), (1, .int (i32 v1)), (2, .int (i32 s.1)), (3, .int (i32 s.2.1)), (4, .int (i32 (j 4)))], [], (mhp s.2.2 c, N), 0, 0)
def ex_above_36 (c : Nat → Option am_C) (N : Nat) (v1 : Int) : (Int × mR) → (Nat → Int) → ag_St af_T := (fun (e : Int × mR) (j : Nat → Int) => ((95, [(0, .ref 189), (1, .int (i32 (j 1))), (2, .int (i32 e.1)), (3, .int (i32 (j 3))), (4, .int (i32 (j 4)))], [], (mhp e.2 c, N), 0, 0) : ag_St af_T))
def rfl_above_87 (v1 : Int) (v3 : Int) (u0 : Int) (u1 : Int) (m : mR) : Option (Sum (Int × Int × mR) (Int × mR)) :=
  some (.inl (cut (u0 + u1), cut (v3 + 1), m))
theorem dg_above_87 (w : wX) (c : Nat → Option am_C) (N D : Nat) (bb : Nat) (v1 : Int) (v3 : Int) (u0 : Int) (u1 : Int) (q1 : R32 v1) (q3 : R32 v3) (r0 : R32 u0) (r1 : R32 u1) (m : mR) (hm : Cn m) (j : Nat → Int) (Q2 : Sum (Int × Int × mR) (Int × mR) → ag_Re af_T → Prop) (H1 : ∀ s j, cs_above_36 s → PP bb w D pm_321 (hd_above_36 c N v1 s j) (Q2 (.inl s))) (H2 : ∀ x j, cx_above_36 x → PP bb w D pm_321 (ex_above_36 c N v1 x j) (Q2 (.inr x))) : PP bb w D pm_321 (87, [(0, .ref 189), (1, .int (i32 v1)), (2, .int (i32 (j 2))), (3, .int (i32 v3)), (4, .int (i32 (j 4)))], [.int (i32 u1), .int (i32 u0)], (mhp m c, N), 0, 0) (QS Q2 (rfl_above_87 v1 v3 u0 u1 m)) := by
  unfold rfl_above_87
  show PP bb w D pm_321 (87, [(0, .ref 189), (1, .int (i32 v1)), (2, .int (i32 (j 2))), (3, .int (i32 v3)), (4, .int (i32 (j 4)))], [.int (i32 u1), .int (i32 u0)], (mhp (mO m [] []) c, N), 0, 0) _
  refine P_op 88 (cut (u0 + u1)) _ rfl (fun _ => rfl) o_add ?_
  refine P_sto 89 [(2, .int (i32 (cut (u0 + u1)))), (0, .ref 189), (1, .int (i32 v1)), (3, .int (i32 v3)), (4, .int (i32 (j 4)))] rfl (fun _ => rfl) ?_
  refine P_inc 92 [(3, .int (i32 (cut (v3 + 1)))), (2, .int (i32 (cut (u0 + u1)))), (0, .ref 189), (1, .int (i32 v1)), (4, .int (i32 (j 4)))] rfl rfl (by decide) rfl rfl ?_
  refine P_goto 36 rfl (fun _ => rfl) ?_
  refine P_some ?_
  refine P_lv (b := [(0, .ref 189), (1, .int (i32 v1)), (2, .int (i32 (cut (u0 + u1)))), (3, .int (i32 (cut (v3 + 1)))), (4, .int (i32 (j 4)))]) rfl rfl ⟨rfl, rfl, rfl, rfl, rfl, trivial⟩ ?_
  exact H1 (cut (u0 + u1), cut (v3 + 1), m) (jk [(4, j 4)]) ⟨cut_r, cut_r, hm⟩
def rfb_above_36 (v1 : Int) (s : Int × Int × mR) : Option (Sum (Int × Int × mR) (Int × mR)) :=
  if (s.2.2.2 139) v1 ≤ s.2.1 then
    some (.inr (s.1, s.2.2))
  else
    bnd (rf_bucket v1 s.2.1 s.2.2) fun y7 =>
    if (upI (s.2.2.2 170) y7 (cut (((s.2.2.2 170) y7) + 1))) y7 ≤ (s.2.2.2 55) v1 then
      rfl_above_87 v1 s.2.1 s.1 0 (mO s.2.2 [] [(170, upI (s.2.2.2 170) y7 (cut (((s.2.2.2 170) y7) + 1)))])
    else
      rfl_above_87 v1 s.2.1 s.1 1 (mO s.2.2 [] [(170, upI (s.2.2.2 170) y7 (cut (((s.2.2.2 170) y7) + 1)))])
theorem dh_above_36 (w : wX) (c : Nat → Option am_C) (N D : Nat) (v1 : Int) (q1 : R32 v1) (bb : Nat) (Q2 : Sum (Int × Int × mR) (Int × mR) → ag_Re af_T → Prop) (H1 : ∀ s j, cs_above_36 s → PP bb w D pm_321 (hd_above_36 c N v1 s j) (Q2 (.inl s))) (H2 : ∀ x j, cx_above_36 x → PP bb w D pm_321 (ex_above_36 c N v1 x j) (Q2 (.inr x))) (s : Int × Int × mR) (j : Nat → Int) (hs : cs_above_36 s) : PP (bb + 1) w D pm_321 (hd_above_36 c N v1 s j) (QS Q2 (rfb_above_36 v1 s)) := by
  obtain ⟨g2, g3, gm⟩ := hs
  unfold rfb_above_36
  show PP (bb + 1) w D pm_321 (36, [(0, .ref 189), (1, .int (i32 v1)), (2, .int (i32 s.1)), (3, .int (i32 s.2.1)), (4, .int (i32 (j 4)))], [], (mhp (mO s.2.2 [] []) c, N), 0, 0) _
  refine P1_ld 37 (.int (i32 s.2.1)) rfl (fun _ => rfl) ?_
  refine P_gf 41 (.ref 293) rfl rfl rfl rfl rfl rfl ?_
  refine P_ld 42 (.int (i32 v1)) rfl (fun _ => rfl) ?_
  refine P_iald2 43 139 (s.2.2.2 139) rfl rfl rfl q1 rfl ?_
  refine P_icF 95 46 rfl rfl rfl g3 (rE_i (Cn_a gm 139) rfl _) rfl (fun h6 => ?_) (fun h6 => ?_)
  · skip
    refine P_some ?_
    exact H2 (s.1, s.2.2) (jk [(1, v1), (3, s.2.1), (4, j 4)]) ⟨g2, gm⟩
  · skip
    refine P_ld 47 (.ref 189) rfl (fun _ => rfl) ?_
    refine P_ld 48 (.int (i32 v1)) rfl (fun _ => rfl) ?_
    refine P_ld 49 (.int (i32 s.2.1)) rfl (fun _ => rfl) ?_
    refine P_cp1 52 322 [.ref 189, .int (i32 v1), .int (i32 s.2.1)] [] rfl (fun _ => rfl) rfl (D_bucket w s.2.2 c N D gm v1 s.2.1 q1 g3) (fun y7 h8 => ?_)
    refine P_sto 54 [(4, .int (i32 y7)), (0, .ref 189), (1, .int (i32 v1)), (2, .int (i32 s.1)), (3, .int (i32 s.2.1))] rfl (fun _ => rfl) ?_
    refine P_gf 58 (.ref 319) rfl rfl rfl rfl rfl rfl ?_
    refine P_ld 60 (.int (i32 y7)) rfl (fun _ => rfl) ?_
    refine P_dup2 61 rfl (fun _ => rfl) ?_
    refine P_iald2 62 170 (s.2.2.2 170) rfl rfl rfl h8 rfl ?_
    refine P_ld 63 (.int (i32 1)) rfl (fun _ => rfl) ?_
    refine P_op 64 (cut (((s.2.2.2 170) y7) + 1)) _ rfl (fun _ => rfl) o_add ?_
    refine P_iast2 (a' := [(170, upI (s.2.2.2 170) y7 (cut (((s.2.2.2 170) y7) + 1)))]) 65 170 (s.2.2.2 170) rfl rfl rfl h8 rfl rfl ?_
    refine P_ld 66 (.int (i32 s.1)) rfl (fun _ => rfl) ?_
    refine P_gf 70 (.ref 319) rfl rfl rfl rfl rfl rfl ?_
    refine P_ld 72 (.int (i32 y7)) rfl (fun _ => rfl) ?_
    refine P_iald2 73 170 (upI (s.2.2.2 170) y7 (cut (((s.2.2.2 170) y7) + 1))) rfl rfl rfl h8 rfl ?_
    refine P_gf 77 (.ref 225) rfl rfl rfl rfl rfl rfl ?_
    refine P_ld 78 (.int (i32 v1)) rfl (fun _ => rfl) ?_
    refine P_iald2 79 55 (s.2.2.2 55) rfl rfl rfl q1 rfl ?_
    refine P_icF 86 82 rfl rfl rfl (rE_i (rE_ui (Cn_a gm 170) rfl cut_r) rfl _) (rE_i (Cn_a gm 55) rfl _) rfl (fun h9 => ?_) (fun h9 => ?_)
    · skip
      refine P_ld 87 (.int (i32 0)) rfl (fun _ => rfl) ?_
      refine P_lv (b := [(0, .ref 189), (1, .int (i32 v1)), (2, .int (i32 s.1)), (3, .int (i32 s.2.1)), (4, .int (i32 y7))]) rfl rfl ⟨rfl, rfl, rfl, rfl, rfl, trivial⟩ ?_
      exact dg_above_87 w c N D bb v1 s.2.1 s.1 0 q1 g3 g2 (l32 0 rfl) (mO s.2.2 [] [(170, upI (s.2.2.2 170) y7 (cut (((s.2.2.2 170) y7) + 1)))]) (Cn_mO gm trivial ⟨(rE_ui (Cn_a gm 170) rfl cut_r), trivial⟩) (jk [(2, s.1), (4, y7)]) Q2 H1 H2
    · skip
      refine P_ld 83 (.int (i32 1)) rfl (fun _ => rfl) ?_
      refine P_goto 87 rfl (fun _ => rfl) ?_
      refine P_lv (b := [(0, .ref 189), (1, .int (i32 v1)), (2, .int (i32 s.1)), (3, .int (i32 s.2.1)), (4, .int (i32 y7))]) rfl rfl ⟨rfl, rfl, rfl, rfl, rfl, trivial⟩ ?_
      exact dg_above_87 w c N D bb v1 s.2.1 s.1 1 q1 g3 g2 (l32 1 rfl) (mO s.2.2 [] [(170, upI (s.2.2.2 170) y7 (cut (((s.2.2.2 170) y7) + 1)))]) (Cn_mO gm trivial ⟨(rE_ui (Cn_a gm 170) rfl cut_r), trivial⟩) (jk [(2, s.1), (4, y7)]) Q2 H1 H2
def rfl_above_32 (v1 : Int) (m : mR) : Option (Int × mR) :=
  bnd (whl (rfb_above_36 v1) (0, 0, m)) (fun e10 : Int × mR =>
    some (e10.1, e10.2))
theorem dg_above_32 (w : wX) (c : Nat → Option am_C) (N D : Nat) (bb : Nat) (v1 : Int) (q1 : R32 v1) (m : mR) (hm : Cn m) (j : Nat → Int) : PP bb w D pm_321 (32, [(0, .ref 189), (1, .int (i32 v1)), (2, .int (i32 (j 2)))], [], (mhp m c, N), 0, 0) (QS (FR1 c N) (rfl_above_32 v1 m)) := by
  unfold rfl_above_32
  show PP bb w D pm_321 (32, [(0, .ref 189), (1, .int (i32 v1)), (2, .int (i32 (j 2)))], [], (mhp (mO m [] []) c, N), 0, 0) _
  refine P_ld 33 (.int (i32 0)) rfl (fun _ => rfl) ?_
  refine P_sto 34 [(2, .int (i32 0)), (0, .ref 189), (1, .int (i32 v1))] rfl (fun _ => rfl) ?_
  refine P_ld 35 (.int (i32 0)) rfl (fun _ => rfl) ?_
  refine P_sto 36 [(3, .int (i32 0)), (2, .int (i32 0)), (0, .ref 189), (1, .int (i32 v1))] rfl (fun _ => rfl) ?_
  refine P_lv (b := [(0, .ref 189), (1, .int (i32 v1)), (2, .int (i32 0)), (3, .int (i32 0)), (4, .int (i32 0))]) rfl rfl ⟨rfl, rfl, rfl, rfl, trivial⟩ ?_
  refine P_bnd ?_
  refine P_whl (fun bb Q2 H1 H2 s9 j9 hs9 => dh_above_36 w c N D v1 q1 bb Q2 H1 H2 s9 j9 hs9) bb (fun e10 j q11 => ?_) (0, 0, m) (jk []) ⟨(l32 0 rfl), (l32 0 rfl), hm⟩
  obtain ⟨q12, q13⟩ := q11
  show PP bb w D pm_321 (95, [(0, .ref 189), (1, .int (i32 (j 1))), (2, .int (i32 e10.1)), (3, .int (i32 (j 3))), (4, .int (i32 (j 4)))], [], (mhp (mO e10.2 [] []) c, N), 0, 0) (QS _ (some (e10.1, e10.2)))
  refine P_ld 96 (.int (i32 e10.1)) rfl (fun _ => rfl) ?_
  exact P_re1 rfl q12 q13
def rfb_above_13 (v1 : Int) (s : Int × mR) : Option (Sum (Int × mR) (mR)) :=
  if (16 : Int) ≤ s.1 then
    some (.inr s.2)
  else
    some (.inl (cut (s.1 + 1), (mO s.2 [] [(170, upI (s.2.2 170) s.1 0)])))
theorem dh_above_13 (w : wX) (c : Nat → Option am_C) (N D : Nat) (v1 : Int) (q1 : R32 v1) (bb : Nat) (Q2 : Sum (Int × mR) (mR) → ag_Re af_T → Prop) (H1 : ∀ s j, cs_above_13 s → PP bb w D pm_321 (hd_above_13 c N v1 s j) (Q2 (.inl s))) (H2 : ∀ x j, cx_above_13 x → PP bb w D pm_321 (ex_above_13 c N v1 x j) (Q2 (.inr x))) (s : Int × mR) (j : Nat → Int) (hs : cs_above_13 s) : PP (bb + 1) w D pm_321 (hd_above_13 c N v1 s j) (QS Q2 (rfb_above_13 v1 s)) := by
  obtain ⟨g2, gm⟩ := hs
  unfold rfb_above_13
  show PP (bb + 1) w D pm_321 (13, [(0, .ref 189), (1, .int (i32 v1)), (2, .int (i32 s.1))], [], (mhp (mO s.2 [] []) c, N), 0, 0) _
  refine P1_ld 14 (.int (i32 s.1)) rfl (fun _ => rfl) ?_
  refine P_ld 16 (.int (i32 16)) rfl (fun _ => rfl) ?_
  refine P_icF 32 19 rfl rfl rfl g2 (l32 16 rfl) rfl (fun h15 => ?_) (fun h15 => ?_)
  · skip
    refine P_some ?_
    exact H2 s.2 (jk [(2, s.1)]) gm
  · skip
    refine P_gf 23 (.ref 319) rfl rfl rfl rfl rfl rfl ?_
    refine P_ld 24 (.int (i32 s.1)) rfl (fun _ => rfl) ?_
    refine P_ld 25 (.int (i32 0)) rfl (fun _ => rfl) ?_
    refine P_iast2 (a' := [(170, upI (s.2.2 170) s.1 0)]) 26 170 (s.2.2 170) rfl rfl rfl g2 rfl rfl ?_
    refine P_inc 29 [(2, .int (i32 (cut (s.1 + 1)))), (0, .ref 189), (1, .int (i32 v1))] rfl rfl (by decide) rfl rfl ?_
    refine P_goto 13 rfl (fun _ => rfl) ?_
    refine P_some ?_
    refine P_lv (b := [(0, .ref 189), (1, .int (i32 v1)), (2, .int (i32 (cut (s.1 + 1))))]) rfl rfl ⟨rfl, rfl, rfl, trivial⟩ ?_
    exact H1 (cut (s.1 + 1), (mO s.2 [] [(170, upI (s.2.2 170) s.1 0)])) (jk []) ⟨cut_r, (Cn_mO gm trivial ⟨(rE_ui (Cn_a gm 170) rfl (l32 0 rfl)), trivial⟩)⟩
def rf_above (v1 : Int) (m : mR) : Option (Int × mR) :=
  if (m.2 58) v1 = 0 then
    some (0, m)
  else
    bnd (whl (rfb_above_13 v1) (0, m)) (fun e17 : mR =>
      rfl_above_32 v1 e17)
theorem D_above (w : wX) (m : mR) (c : Nat → Option am_C) (N D : Nat) (hm : Cn m) (v1 : Int) (q1 : R32 v1) : PC w D 321 [.ref 189, .int (i32 v1)] (mhp m c, N) (QS (FR1 c N) (rf_above v1 m)) := by
  refine Pc_of (fun D bb => ?_) D
  unfold rf_above
  show PP bb w D pm_321 (0, [(0, .ref 189), (1, .int (i32 v1))], [], (mhp (mO m [] []) c, N), 0, 0) _
  refine P_gf 4 (.ref 228) rfl rfl rfl rfl rfl rfl ?_
  refine P_ld 5 (.int (i32 v1)) rfl (fun _ => rfl) ?_
  refine P_bald2 6 58 (m.2 58) rfl rfl rfl q1 rfl ?_
  refine P_ifE 11 9 rfl rfl rfl (rE_i (Cn_a hm 58) rfl _) rfl (fun h16 => ?_) (fun h16 => ?_)
  · skip
    refine P_ld 10 (.int (i32 0)) rfl (fun _ => rfl) ?_
    exact P_re1 rfl (l32 0 rfl) hm
  · skip
    refine P_ld 12 (.int (i32 0)) rfl (fun _ => rfl) ?_
    refine P_sto 13 [(2, .int (i32 0)), (0, .ref 189), (1, .int (i32 v1))] rfl (fun _ => rfl) ?_
    refine P_lv (b := [(0, .ref 189), (1, .int (i32 v1)), (2, .int (i32 0))]) rfl rfl ⟨rfl, rfl, rfl, trivial⟩ ?_
    refine P_bnd ?_
    refine P_whl (fun bb Q2 H1 H2 s9 j9 hs9 => dh_above_13 w c N D v1 q1 bb Q2 H1 H2 s9 j9 hs9) bb (fun e17 j q18 => ?_) (0, m) (jk []) ⟨(l32 0 rfl), hm⟩
    have q19 := q18
    show PP bb w D pm_321 (32, [(0, .ref 189), (1, .int (i32 v1)), (2, .int (i32 (j 2)))], [], (mhp (mO e17 [] []) c, N), 0, 0) (QS _ (rfl_above_32 v1 e17))
    exact dg_above_32 w c N D bb v1 q1 e17 q19 (jk [(2, j 2)])
def cs_entryComes_57 (s : Int × mR) : Prop := R32 s.1 ∧ Cn s.2
def cx_entryComes_57 : (mR) → Prop := (fun (e : mR) => Cn e)
def hd_entryComes_57 (c : Nat → Option am_C) (N : Nat) (v1 : Int) (v2 : Int) (s : Int × mR) (j : Nat → Int) : ag_St af_T := (57, [(0, .ref 189), (1, .int (i32 v1)), (2, .int (i32 v2)), (3, .int (i32 s.1)), (4, .int (i32 (j 4)))], [], (mhp s.2 c, N), 0, 0)
def ex_entryComes_57 (c : Nat → Option am_C) (N : Nat) (v1 : Int) (v2 : Int) : (mR) → (Nat → Int) → ag_St af_T := (fun (e : mR) (j : Nat → Int) => ((132, [(0, .ref 189), (1, .int (i32 v1)), (2, .int (i32 v2)), (3, .int (i32 (j 3))), (4, .int (i32 (j 4)))], [], (mhp e c, N), 0, 0) : ag_St af_T))
def rfl_entryComes_179 (v1 : Int) (u0 : Int) (m : mR) : Option (Int × mR) :=
  if (m.2 56) v1 < u0 then
    some (0, (mO m [] [(139, upI (m.2 139) v1 (cut (((m.2 139) v1) - 1)))]))
  else
    some (1, m)
theorem dg_entryComes_179 (w : wX) (c : Nat → Option am_C) (N D : Nat) (bb : Nat) (v1 : Int) (u0 : Int) (q1 : R32 v1) (r0 : R32 u0) (m : mR) (hm : Cn m) (j : Nat → Int) : PP bb w D pm_316 (179, [(0, .ref 189), (1, .int (i32 v1)), (2, .int (i32 (j 2))), (3, .int (i32 (j 3))), (4, .int (i32 (j 4)))], [.int (i32 u0)], (mhp m c, N), 0, 0) (QS (FR1 c N) (rfl_entryComes_179 v1 u0 m)) := by
  unfold rfl_entryComes_179
  show PP bb w D pm_316 (179, [(0, .ref 189), (1, .int (i32 v1)), (2, .int (i32 (j 2))), (3, .int (i32 (j 3))), (4, .int (i32 (j 4)))], [.int (i32 u0)], (mhp (mO m [] []) c, N), 0, 0) _
  refine P_gf 183 (.ref 226) rfl rfl rfl rfl rfl rfl ?_
  refine P_ld 184 (.int (i32 v1)) rfl (fun _ => rfl) ?_
  refine P_iald2 185 56 (m.2 56) rfl rfl rfl q1 rfl ?_
  refine P_icF 190 188 rfl rfl rfl r0 (rE_i (Cn_a hm 56) rfl _) rfl (fun h2 => ?_) (fun h2 => ?_)
  · skip
    refine P_gf 194 (.ref 293) rfl rfl rfl rfl rfl rfl ?_
    refine P_ld 195 (.int (i32 v1)) rfl (fun _ => rfl) ?_
    refine P_dup2 196 rfl (fun _ => rfl) ?_
    refine P_iald2 197 139 (m.2 139) rfl rfl rfl q1 rfl ?_
    refine P_ld 198 (.int (i32 1)) rfl (fun _ => rfl) ?_
    refine P_op 199 (cut (((m.2 139) v1) - 1)) _ rfl (fun _ => rfl) o_sub ?_
    refine P_iast2 (a' := [(139, upI (m.2 139) v1 (cut (((m.2 139) v1) - 1)))]) 200 139 (m.2 139) rfl rfl rfl q1 rfl rfl ?_
    refine P_ld 201 (.int (i32 0)) rfl (fun _ => rfl) ?_
    exact P_re1 rfl (l32 0 rfl) (Cn_mO hm trivial ⟨(rE_ui (Cn_a hm 139) rfl cut_r), trivial⟩)
  · skip
    refine P_ld 189 (.int (i32 1)) rfl (fun _ => rfl) ?_
    exact P_re1 rfl (l32 1 rfl) hm
def rfl_entryComes_155 (v1 : Int) (m : mR) : Option (Int × mR) :=
  if (m.2 58) v1 = 0 then
    some (1, (mO m [] [(139, upI (m.2 139) v1 (cut (((m.2 139) v1) + 1)))]))
  else
    bnd (rf_above v1 (mO m [] [(139, upI (m.2 139) v1 (cut (((m.2 139) v1) + 1)))])) fun y4 =>
    rfl_entryComes_179 v1 y4.1 y4.2
theorem dg_entryComes_155 (w : wX) (c : Nat → Option am_C) (N D : Nat) (bb : Nat) (v1 : Int) (q1 : R32 v1) (m : mR) (hm : Cn m) (j : Nat → Int) : PP bb w D pm_316 (155, [(0, .ref 189), (1, .int (i32 v1)), (2, .int (i32 (j 2))), (3, .int (i32 (j 3))), (4, .int (i32 (j 4)))], [], (mhp m c, N), 0, 0) (QS (FR1 c N) (rfl_entryComes_155 v1 m)) := by
  unfold rfl_entryComes_155
  show PP bb w D pm_316 (155, [(0, .ref 189), (1, .int (i32 v1)), (2, .int (i32 (j 2))), (3, .int (i32 (j 3))), (4, .int (i32 (j 4)))], [], (mhp (mO m [] []) c, N), 0, 0) _
  refine P_gf 159 (.ref 293) rfl rfl rfl rfl rfl rfl ?_
  refine P_ld 160 (.int (i32 v1)) rfl (fun _ => rfl) ?_
  refine P_dup2 161 rfl (fun _ => rfl) ?_
  refine P_iald2 162 139 (m.2 139) rfl rfl rfl q1 rfl ?_
  refine P_ld 163 (.int (i32 1)) rfl (fun _ => rfl) ?_
  refine P_op 164 (cut (((m.2 139) v1) + 1)) _ rfl (fun _ => rfl) o_add ?_
  refine P_iast2 (a' := [(139, upI (m.2 139) v1 (cut (((m.2 139) v1) + 1)))]) 165 139 (m.2 139) rfl rfl rfl q1 rfl rfl ?_
  refine P_gf 169 (.ref 228) rfl rfl rfl rfl rfl rfl ?_
  refine P_ld 170 (.int (i32 v1)) rfl (fun _ => rfl) ?_
  refine P_bald2 171 58 (m.2 58) rfl rfl rfl q1 rfl ?_
  refine P_ifF 188 174 rfl rfl rfl (rE_i (Cn_a hm 58) rfl _) rfl (fun h3 => ?_) (fun h3 => ?_)
  · skip
    refine P_ld 189 (.int (i32 1)) rfl (fun _ => rfl) ?_
    exact P_re1 rfl (l32 1 rfl) (Cn_mO hm trivial ⟨(rE_ui (Cn_a hm 139) rfl cut_r), trivial⟩)
  · skip
    refine P_ld 175 (.ref 189) rfl (fun _ => rfl) ?_
    refine P_ld 176 (.int (i32 v1)) rfl (fun _ => rfl) ?_
    refine P_ca1 179 321 [.ref 189, .int (i32 v1)] [] rfl (fun _ => rfl) rfl (D_above w (mO m [] [(139, upI (m.2 139) v1 (cut (((m.2 139) v1) + 1)))]) c N D (Cn_mO hm trivial ⟨(rE_ui (Cn_a hm 139) rfl cut_r), trivial⟩) v1 q1) (fun y4 h5 n6 => ?_)
    exact dg_entryComes_179 w c N D bb v1 y4.1 q1 h5 y4.2 n6 (jk [(2, j 2), (3, j 3), (4, j 4)])
def rfl_entryComes_132 (v1 : Int) (v2 : Int) (m : mR) : Option (Int × mR) :=
  bnd (rf_slot v1 v2 m) fun y7 =>
  bnd (rf_putAction v1 v2 (mO m [] [(140, upI (m.2 140) y7 ((m.2 157) 0))])) fun y9 =>
  rfl_entryComes_155 v1 y9.2
theorem dg_entryComes_132 (w : wX) (c : Nat → Option am_C) (N D : Nat) (bb : Nat) (v1 : Int) (v2 : Int) (q1 : R32 v1) (q2 : R32 v2) (m : mR) (hm : Cn m) (j : Nat → Int) : PP bb w D pm_316 (132, [(0, .ref 189), (1, .int (i32 v1)), (2, .int (i32 v2)), (3, .int (i32 (j 3))), (4, .int (i32 (j 4)))], [], (mhp m c, N), 0, 0) (QS (FR1 c N) (rfl_entryComes_132 v1 v2 m)) := by
  unfold rfl_entryComes_132
  show PP bb w D pm_316 (132, [(0, .ref 189), (1, .int (i32 v1)), (2, .int (i32 v2)), (3, .int (i32 (j 3))), (4, .int (i32 (j 4)))], [], (mhp (mO m [] []) c, N), 0, 0) _
  refine P_gf 136 (.ref 294) rfl rfl rfl rfl rfl rfl ?_
  refine P_ld 137 (.ref 189) rfl (fun _ => rfl) ?_
  refine P_ld 138 (.int (i32 v1)) rfl (fun _ => rfl) ?_
  refine P_ld 139 (.int (i32 v2)) rfl (fun _ => rfl) ?_
  refine P_cp1 142 319 [.ref 189, .int (i32 v1), .int (i32 v2)] [.ref 294] rfl (fun _ => rfl) rfl (D_slot w m c N D hm v1 v2 q1 q2) (fun y7 h8 => ?_)
  refine P_gf 146 (.ref 306) rfl rfl rfl rfl rfl rfl ?_
  refine P_ld 147 (.int (i32 0)) rfl (fun _ => rfl) ?_
  refine P_iald2 148 157 (m.2 157) rfl rfl rfl (l32 0 rfl) rfl ?_
  refine P_iast2 (a' := [(140, upI (m.2 140) y7 ((m.2 157) 0))]) 149 140 (m.2 140) rfl rfl rfl h8 rfl rfl ?_
  refine P_ld 150 (.ref 189) rfl (fun _ => rfl) ?_
  refine P_ld 151 (.int (i32 v1)) rfl (fun _ => rfl) ?_
  refine P_ld 152 (.int (i32 v2)) rfl (fun _ => rfl) ?_
  refine P_ca0 155 320 [.ref 189, .int (i32 v1), .int (i32 v2)] [] rfl (fun _ => rfl) rfl (D_putAction w (mO m [] [(140, upI (m.2 140) y7 ((m.2 157) 0))]) c N D (Cn_mO hm trivial ⟨(rE_ui (Cn_a hm 140) rfl (rE_i (Cn_a hm 157) rfl _)), trivial⟩) v1 v2 q1 q2) (fun y9 n11 => ?_)
  exact dg_entryComes_155 w c N D bb v1 q1 y9.2 n11 (jk [(2, v2), (3, j 3), (4, j 4)])
def rfb_entryComes_57 (v1 : Int) (v2 : Int) (s : Int × mR) : Option (Sum (Int × mR) (mR)) :=
  if (s.2.2 51) v1 ≤ s.1 then
    some (.inr s.2)
  else
    bnd (rf_slot v1 v2 s.2) fun y14 =>
    bnd (rf_cut ((s.2.2 161) s.1) ((s.2.2 112) (cut ((cut (4 * v1)) + s.1)))) fun y16 =>
    some (.inl (cut (s.1 + 1), (mO s.2 [] [(142, upI (s.2.2 142) (cut ((cut (4 * y14)) + s.1)) (and64 ((s.2.2 160) s.1) ((upI (s.2.2 143) (cut ((cut (4 * y14)) + s.1)) y16) (cut ((cut (4 * y14)) + s.1))))), (143, upI (s.2.2 143) (cut ((cut (4 * y14)) + s.1)) y16)])))
theorem dh_entryComes_57 (w : wX) (c : Nat → Option am_C) (N D : Nat) (v1 : Int) (v2 : Int) (q1 : R32 v1) (q2 : R32 v2) (bb : Nat) (Q2 : Sum (Int × mR) (mR) → ag_Re af_T → Prop) (H1 : ∀ s j, cs_entryComes_57 s → PP bb w D pm_316 (hd_entryComes_57 c N v1 v2 s j) (Q2 (.inl s))) (H2 : ∀ x j, cx_entryComes_57 x → PP bb w D pm_316 (ex_entryComes_57 c N v1 v2 x j) (Q2 (.inr x))) (s : Int × mR) (j : Nat → Int) (hs : cs_entryComes_57 s) : PP (bb + 1) w D pm_316 (hd_entryComes_57 c N v1 v2 s j) (QS Q2 (rfb_entryComes_57 v1 v2 s)) := by
  obtain ⟨g3, gm⟩ := hs
  unfold rfb_entryComes_57
  show PP (bb + 1) w D pm_316 (57, [(0, .ref 189), (1, .int (i32 v1)), (2, .int (i32 v2)), (3, .int (i32 s.1)), (4, .int (i32 (j 4)))], [], (mhp (mO s.2 [] []) c, N), 0, 0) _
  refine P1_ld 58 (.int (i32 s.1)) rfl (fun _ => rfl) ?_
  refine P_gf 62 (.ref 221) rfl rfl rfl rfl rfl rfl ?_
  refine P_ld 63 (.int (i32 v1)) rfl (fun _ => rfl) ?_
  refine P_iald2 64 51 (s.2.2 51) rfl rfl rfl q1 rfl ?_
  refine P_icF 132 67 rfl rfl rfl g3 (rE_i (Cn_a gm 51) rfl _) rfl (fun h13 => ?_) (fun h13 => ?_)
  · skip
    refine P_some ?_
    exact H2 s.2 (jk [(3, s.1), (4, j 4)]) gm
  · skip
    refine P_ld 68 (.int (i32 4)) rfl (fun _ => rfl) ?_
    refine P_ld 69 (.ref 189) rfl (fun _ => rfl) ?_
    refine P_ld 70 (.int (i32 v1)) rfl (fun _ => rfl) ?_
    refine P_ld 71 (.int (i32 v2)) rfl (fun _ => rfl) ?_
    refine P_cp1 74 319 [.ref 189, .int (i32 v1), .int (i32 v2)] [.int (i32 4)] rfl (fun _ => rfl) rfl (D_slot w s.2 c N D gm v1 v2 q1 q2) (fun y14 h15 => ?_)
    refine P_op 75 (cut (4 * y14)) _ rfl (fun _ => rfl) o_mul ?_
    refine P_ld 76 (.int (i32 s.1)) rfl (fun _ => rfl) ?_
    refine P_op 77 (cut ((cut (4 * y14)) + s.1)) _ rfl (fun _ => rfl) o_add ?_
    refine P_sto 79 [(4, .int (i32 (cut ((cut (4 * y14)) + s.1)))), (0, .ref 189), (1, .int (i32 v1)), (2, .int (i32 v2)), (3, .int (i32 s.1))] rfl (fun _ => rfl) ?_
    refine P_gf 83 (.ref 297) rfl rfl rfl rfl rfl rfl ?_
    refine P_ld 85 (.int (i32 (cut ((cut (4 * y14)) + s.1)))) rfl (fun _ => rfl) ?_
    refine P_gf 89 (.ref 310) rfl rfl rfl rfl rfl rfl ?_
    refine P_ld 90 (.int (i32 s.1)) rfl (fun _ => rfl) ?_
    refine P_lald2 91 161 (s.2.2 161) rfl rfl rfl g3 rfl ?_
    refine P_gf 95 (.ref 272) rfl rfl rfl rfl rfl rfl ?_
    refine P_ld 96 (.int (i32 4)) rfl (fun _ => rfl) ?_
    refine P_ld 97 (.int (i32 v1)) rfl (fun _ => rfl) ?_
    refine P_op 98 (cut (4 * v1)) _ rfl (fun _ => rfl) o_mul ?_
    refine P_ld 99 (.int (i32 s.1)) rfl (fun _ => rfl) ?_
    refine P_op 100 (cut ((cut (4 * v1)) + s.1)) _ rfl (fun _ => rfl) o_add ?_
    refine P_iald2 101 112 (s.2.2 112) rfl rfl rfl cut_r rfl ?_
    refine P_cp2 104 315 [.long (i64 ((s.2.2 161) s.1)), .int (i32 ((s.2.2 112) (cut ((cut (4 * v1)) + s.1))))] [.int (i32 (cut ((cut (4 * y14)) + s.1))), .ref 297] rfl (fun _ => rfl) rfl (D_cut w _ D ((s.2.2 161) s.1) ((s.2.2 112) (cut ((cut (4 * v1)) + s.1))) (rE_l (Cn_a gm 161) rfl _) (rE_i (Cn_a gm 112) rfl _)) (fun y16 h17 => ?_)
    refine P_last2 (a' := [(143, upI (s.2.2 143) (cut ((cut (4 * y14)) + s.1)) y16)]) 105 143 (s.2.2 143) rfl rfl rfl cut_r rfl rfl ?_
    refine P_gf 109 (.ref 296) rfl rfl rfl rfl rfl rfl ?_
    refine P_ld 111 (.int (i32 (cut ((cut (4 * y14)) + s.1)))) rfl (fun _ => rfl) ?_
    refine P_gf 115 (.ref 309) rfl rfl rfl rfl rfl rfl ?_
    refine P_ld 116 (.int (i32 s.1)) rfl (fun _ => rfl) ?_
    refine P_lald2 117 160 (s.2.2 160) rfl rfl rfl g3 rfl ?_
    refine P_gf 121 (.ref 297) rfl rfl rfl rfl rfl rfl ?_
    refine P_ld 123 (.int (i32 (cut ((cut (4 * y14)) + s.1)))) rfl (fun _ => rfl) ?_
    refine P_lald2 124 143 (upI (s.2.2 143) (cut ((cut (4 * y14)) + s.1)) y16) rfl rfl rfl cut_r rfl ?_
    refine P_opl 125 (and64 ((s.2.2 160) s.1) ((upI (s.2.2 143) (cut ((cut (4 * y14)) + s.1)) y16) (cut ((cut (4 * y14)) + s.1)))) _ rfl (fun _ => rfl) (Int64.ofInt_toInt _).symm ?_
    refine P_last2 (a' := [(142, upI (s.2.2 142) (cut ((cut (4 * y14)) + s.1)) (and64 ((s.2.2 160) s.1) ((upI (s.2.2 143) (cut ((cut (4 * y14)) + s.1)) y16) (cut ((cut (4 * y14)) + s.1))))), (143, upI (s.2.2 143) (cut ((cut (4 * y14)) + s.1)) y16)]) 126 142 (s.2.2 142) rfl rfl rfl cut_r rfl rfl ?_
    refine P_inc 129 [(3, .int (i32 (cut (s.1 + 1)))), (4, .int (i32 (cut ((cut (4 * y14)) + s.1)))), (0, .ref 189), (1, .int (i32 v1)), (2, .int (i32 v2))] rfl rfl (by decide) rfl rfl ?_
    refine P_goto 57 rfl (fun _ => rfl) ?_
    refine P_some ?_
    refine P_lv (b := [(0, .ref 189), (1, .int (i32 v1)), (2, .int (i32 v2)), (3, .int (i32 (cut (s.1 + 1)))), (4, .int (i32 (cut ((cut (4 * y14)) + s.1))))]) rfl rfl ⟨rfl, rfl, rfl, rfl, rfl, trivial⟩ ?_
    exact H1 (cut (s.1 + 1), (mO s.2 [] [(142, upI (s.2.2 142) (cut ((cut (4 * y14)) + s.1)) (and64 ((s.2.2 160) s.1) ((upI (s.2.2 143) (cut ((cut (4 * y14)) + s.1)) y16) (cut ((cut (4 * y14)) + s.1))))), (143, upI (s.2.2 143) (cut ((cut (4 * y14)) + s.1)) y16)])) (jk [(4, cut ((cut (4 * y14)) + s.1))]) ⟨cut_r, (Cn_mO gm trivial ⟨(rE_ul (Cn_a gm 142) rfl t64_r), (rE_ul (Cn_a gm 143) rfl h17), trivial⟩)⟩
def rfl_entryComes_48 (v1 : Int) (m : mR) : Option (Int × mR) :=
  bnd (whl (rfb_entryComes_57 v1 ((m.2 139) v1)) (0, m)) (fun e18 : mR =>
    rfl_entryComes_132 v1 ((m.2 139) v1) e18)
theorem dg_entryComes_48 (w : wX) (c : Nat → Option am_C) (N D : Nat) (bb : Nat) (v1 : Int) (q1 : R32 v1) (m : mR) (hm : Cn m) (j : Nat → Int) : PP bb w D pm_316 (48, [(0, .ref 189), (1, .int (i32 v1))], [], (mhp m c, N), 0, 0) (QS (FR1 c N) (rfl_entryComes_48 v1 m)) := by
  unfold rfl_entryComes_48
  show PP bb w D pm_316 (48, [(0, .ref 189), (1, .int (i32 v1))], [], (mhp (mO m [] []) c, N), 0, 0) _
  refine P_gf 52 (.ref 293) rfl rfl rfl rfl rfl rfl ?_
  refine P_ld 53 (.int (i32 v1)) rfl (fun _ => rfl) ?_
  refine P_iald2 54 139 (m.2 139) rfl rfl rfl q1 rfl ?_
  refine P_sto 55 [(2, .int (i32 ((m.2 139) v1))), (0, .ref 189), (1, .int (i32 v1))] rfl (fun _ => rfl) ?_
  refine P_ld 56 (.int (i32 0)) rfl (fun _ => rfl) ?_
  refine P_sto 57 [(3, .int (i32 0)), (2, .int (i32 ((m.2 139) v1))), (0, .ref 189), (1, .int (i32 v1))] rfl (fun _ => rfl) ?_
  refine P_lv (b := [(0, .ref 189), (1, .int (i32 v1)), (2, .int (i32 ((m.2 139) v1))), (3, .int (i32 0)), (4, .int (i32 0))]) rfl rfl ⟨rfl, rfl, rfl, rfl, trivial⟩ ?_
  refine P_bnd ?_
  refine P_whl (fun bb Q2 H1 H2 s9 j9 hs9 => dh_entryComes_57 w c N D v1 ((m.2 139) v1) q1 (rE_i (Cn_a hm 139) rfl _) bb Q2 H1 H2 s9 j9 hs9) bb (fun e18 j q19 => ?_) (0, m) (jk []) ⟨(l32 0 rfl), hm⟩
  have q20 := q19
  show PP bb w D pm_316 (132, [(0, .ref 189), (1, .int (i32 v1)), (2, .int (i32 ((m.2 139) v1))), (3, .int (i32 (j 3))), (4, .int (i32 (j 4)))], [], (mhp (mO e18 [] []) c, N), 0, 0) (QS _ (rfl_entryComes_132 v1 ((m.2 139) v1) e18))
  exact dg_entryComes_132 w c N D bb v1 ((m.2 139) v1) q1 (rE_i (Cn_a hm 139) rfl _) e18 q20 (jk [(3, j 3), (4, j 4)])
def rf_entryComes (v1 : Int) (m : mR) : Option (Int × mR) :=
  bnd (rf_isOf v1 ((m.2 158) 0) m) fun y21 =>
  if y21 = 0 then
    some (0, m)
  else
    bnd (rf_findSame v1 m) fun y24 =>
    if (0 : Int) ≤ y24 then
      some (0, m)
    else
      if (m.2 58) v1 = 0 then
        if (m.2 139) v1 = (m.2 54) v1 then
          some (0, m)
        else
          rfl_entryComes_48 v1 m
      else
        rfl_entryComes_48 v1 m
theorem D_entryComes (w : wX) (m : mR) (c : Nat → Option am_C) (N D : Nat) (hm : Cn m) (v1 : Int) (q1 : R32 v1) : PC w D 316 [.ref 189, .int (i32 v1)] (mhp m c, N) (QS (FR1 c N) (rf_entryComes v1 m)) := by
  refine Pc_of (fun D bb => ?_) D
  unfold rf_entryComes
  show PP bb w D pm_316 (0, [(0, .ref 189), (1, .int (i32 v1))], [], (mhp (mO m [] []) c, N), 0, 0) _
  refine P_ld 1 (.ref 189) rfl (fun _ => rfl) ?_
  refine P_ld 2 (.int (i32 v1)) rfl (fun _ => rfl) ?_
  refine P_gf 6 (.ref 307) rfl rfl rfl rfl rfl rfl ?_
  refine P_ld 7 (.int (i32 0)) rfl (fun _ => rfl) ?_
  refine P_iald2 8 158 (m.2 158) rfl rfl rfl (l32 0 rfl) rfl ?_
  refine P_cp1 11 317 [.ref 189, .int (i32 v1), .int (i32 ((m.2 158) 0))] [] rfl (fun _ => rfl) rfl (D_isOf w m c N D hm v1 ((m.2 158) 0) q1 (rE_i (Cn_a hm 158) rfl _)) (fun y21 h22 => ?_)
  refine P_ifF 46 14 rfl rfl rfl h22 rfl (fun h23 => ?_) (fun h23 => ?_)
  · skip
    refine P_ld 47 (.int (i32 0)) rfl (fun _ => rfl) ?_
    exact P_re1 rfl (l32 0 rfl) hm
  · skip
    refine P_ld 15 (.ref 189) rfl (fun _ => rfl) ?_
    refine P_ld 16 (.int (i32 v1)) rfl (fun _ => rfl) ?_
    refine P_cp1 19 318 [.ref 189, .int (i32 v1)] [] rfl (fun _ => rfl) rfl (D_findSame w m c N D hm v1 q1) (fun y24 h25 => ?_)
    refine P_ifF 46 22 rfl rfl rfl h25 rfl (fun h26 => ?_) (fun h26 => ?_)
    · skip
      refine P_ld 47 (.int (i32 0)) rfl (fun _ => rfl) ?_
      exact P_re1 rfl (l32 0 rfl) hm
    · skip
      refine P_gf 26 (.ref 228) rfl rfl rfl rfl rfl rfl ?_
      refine P_ld 27 (.int (i32 v1)) rfl (fun _ => rfl) ?_
      refine P_bald2 28 58 (m.2 58) rfl rfl rfl q1 rfl ?_
      refine P_ifE 48 31 rfl rfl rfl (rE_i (Cn_a hm 58) rfl _) rfl (fun h27 => ?_) (fun h27 => ?_)
      · skip
        refine P_gf 35 (.ref 293) rfl rfl rfl rfl rfl rfl ?_
        refine P_ld 36 (.int (i32 v1)) rfl (fun _ => rfl) ?_
        refine P_iald2 37 139 (m.2 139) rfl rfl rfl q1 rfl ?_
        refine P_gf 41 (.ref 224) rfl rfl rfl rfl rfl rfl ?_
        refine P_ld 42 (.int (i32 v1)) rfl (fun _ => rfl) ?_
        refine P_iald2 43 54 (m.2 54) rfl rfl rfl q1 rfl ?_
        refine P_icE 48 46 rfl rfl rfl (rE_i (Cn_a hm 139) rfl _) (rE_i (Cn_a hm 54) rfl _) rfl (fun h28 => ?_) (fun h28 => ?_)
        · skip
          refine P_ld 47 (.int (i32 0)) rfl (fun _ => rfl) ?_
          exact P_re1 rfl (l32 0 rfl) hm
        · skip
          exact dg_entryComes_48 w c N D bb v1 q1 m hm (jk [])
      · skip
        exact dg_entryComes_48 w c N D bb v1 q1 m hm (jk [])
def rf_entryChanges (v1 : Int) (m : mR) : Option (Int × mR) :=
  bnd (rf_findSame v1 m) fun y1 =>
  if y1 < 0 then
    some (0, m)
  else
    bnd (rf_isOf v1 ((m.2 158) 0) m) fun y4 =>
    if y4 = 0 then
      some (0, m)
    else
      bnd (rf_putAction v1 y1 m) fun y7 =>
      some (1, y7.2)
theorem D_entryChanges (w : wX) (m : mR) (c : Nat → Option am_C) (N D : Nat) (hm : Cn m) (v1 : Int) (q1 : R32 v1) : PC w D 323 [.ref 189, .int (i32 v1)] (mhp m c, N) (QS (FR1 c N) (rf_entryChanges v1 m)) := by
  refine Pc_of (fun D bb => ?_) D
  unfold rf_entryChanges
  show PP bb w D pm_323 (0, [(0, .ref 189), (1, .int (i32 v1))], [], (mhp (mO m [] []) c, N), 0, 0) _
  refine P_ld 1 (.ref 189) rfl (fun _ => rfl) ?_
  refine P_ld 2 (.int (i32 v1)) rfl (fun _ => rfl) ?_
  refine P_cp1 5 318 [.ref 189, .int (i32 v1)] [] rfl (fun _ => rfl) rfl (D_findSame w m c N D hm v1 q1) (fun y1 h2 => ?_)
  refine P_sto 6 [(2, .int (i32 y1)), (0, .ref 189), (1, .int (i32 v1))] rfl (fun _ => rfl) ?_
  refine P_ld 7 (.int (i32 y1)) rfl (fun _ => rfl) ?_
  refine P_ifF 24 10 rfl rfl rfl h2 rfl (fun h3 => ?_) (fun h3 => ?_)
  · skip
    refine P_ld 25 (.int (i32 0)) rfl (fun _ => rfl) ?_
    exact P_re1 rfl (l32 0 rfl) hm
  · skip
    refine P_ld 11 (.ref 189) rfl (fun _ => rfl) ?_
    refine P_ld 12 (.int (i32 v1)) rfl (fun _ => rfl) ?_
    refine P_gf 16 (.ref 307) rfl rfl rfl rfl rfl rfl ?_
    refine P_ld 17 (.int (i32 0)) rfl (fun _ => rfl) ?_
    refine P_iald2 18 158 (m.2 158) rfl rfl rfl (l32 0 rfl) rfl ?_
    refine P_cp1 21 317 [.ref 189, .int (i32 v1), .int (i32 ((m.2 158) 0))] [] rfl (fun _ => rfl) rfl (D_isOf w m c N D hm v1 ((m.2 158) 0) q1 (rE_i (Cn_a hm 158) rfl _)) (fun y4 h5 => ?_)
    refine P_ifE 26 24 rfl rfl rfl h5 rfl (fun h6 => ?_) (fun h6 => ?_)
    · skip
      refine P_ld 25 (.int (i32 0)) rfl (fun _ => rfl) ?_
      exact P_re1 rfl (l32 0 rfl) hm
    · skip
      refine P_ld 27 (.ref 189) rfl (fun _ => rfl) ?_
      refine P_ld 28 (.int (i32 v1)) rfl (fun _ => rfl) ?_
      refine P_ld 29 (.int (i32 y1)) rfl (fun _ => rfl) ?_
      refine P_ca0 32 320 [.ref 189, .int (i32 v1), .int (i32 y1)] [] rfl (fun _ => rfl) rfl (D_putAction w m c N D hm v1 y1 q1 h2) (fun y7 n9 => ?_)
      refine P_ld 33 (.int (i32 1)) rfl (fun _ => rfl) ?_
      exact P_re1 rfl (l32 1 rfl) n9
end X55BB
