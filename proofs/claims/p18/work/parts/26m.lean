noncomputable section X26M
def cs_leads_36 (s : Int × Int) : Prop := R32 s.1 ∧ R32 s.2
def cx_leads_36 : (Int) → Prop := (fun (e : Int) => R32 e)
def hd_leads_36 (c : Nat → Option am_C) (N : Nat) (v1 : Int) (v2 : Int) (m : mR) (s : Int × Int) (j : Nat → Int) : ag_St af_T := (36, [(0, .ref 189), (1, .int (i32 v1)), (2, .int (i32 v2)), (3, .int (i32 s.1)), (4, .int (i32 s.2))], [], (mhp m c, N), 0, 0)
def ex_leads_36 (c : Nat → Option am_C) (N : Nat) (v1 : Int) (v2 : Int) (m : mR) : (Int) → (Nat → Int) → ag_St af_T := (fun (e : Int) (j : Nat → Int) => ((94, [(0, .ref 189), (1, .int (i32 (j 1))), (2, .int (i32 (j 2))), (3, .int (i32 e)), (4, .int (i32 (j 4)))], [], (mhp m c, N), 0, 0) : ag_St af_T))
def rfl_leads_87 (v1 : Int) (v2 : Int) (v4 : Int) (u0 : Int) (m : mR) : Option (Sum (Int × Int) (Int)) :=
  some (.inl (u0, cut (v4 + 1)))
theorem dg_leads_87 (w : wX) (c : Nat → Option am_C) (N D : Nat) (bb : Nat) (v1 : Int) (v2 : Int) (v4 : Int) (u0 : Int) (q1 : R32 v1) (q2 : R32 v2) (q4 : R32 v4) (r0 : R32 u0) (m : mR) (hm : Cn m) (j : Nat → Int) (Q2 : Sum (Int × Int) (Int) → ag_Re af_T → Prop) (H1 : ∀ s j, cs_leads_36 s → PP bb w D pm_286 (hd_leads_36 c N v1 v2 m s j) (Q2 (.inl s))) (H2 : ∀ x j, cx_leads_36 x → PP bb w D pm_286 (ex_leads_36 c N v1 v2 m x j) (Q2 (.inr x))) : PP bb w D pm_286 (87, [(0, .ref 189), (1, .int (i32 v1)), (2, .int (i32 v2)), (3, .int (i32 (j 3))), (4, .int (i32 v4))], [.int (i32 u0)], (mhp m c, N), 0, 0) (QS Q2 (rfl_leads_87 v1 v2 v4 u0 m)) := by
  unfold rfl_leads_87
  show PP bb w D pm_286 (87, [(0, .ref 189), (1, .int (i32 v1)), (2, .int (i32 v2)), (3, .int (i32 (j 3))), (4, .int (i32 v4))], [.int (i32 u0)], (mhp (mO m [] []) c, N), 0, 0) _
  refine P_sto 88 [(3, .int (i32 u0)), (0, .ref 189), (1, .int (i32 v1)), (2, .int (i32 v2)), (4, .int (i32 v4))] rfl (fun _ => rfl) ?_
  refine P_inc 91 [(4, .int (i32 (cut (v4 + 1)))), (3, .int (i32 u0)), (0, .ref 189), (1, .int (i32 v1)), (2, .int (i32 v2))] rfl rfl (by decide) rfl rfl ?_
  refine P_goto 36 rfl (fun _ => rfl) ?_
  refine P_some ?_
  refine P_lv (b := [(0, .ref 189), (1, .int (i32 v1)), (2, .int (i32 v2)), (3, .int (i32 u0)), (4, .int (i32 (cut (v4 + 1))))]) rfl rfl ⟨rfl, rfl, rfl, rfl, rfl, trivial⟩ ?_
  exact H1 (u0, cut (v4 + 1)) (jk []) ⟨r0, cut_r⟩
def rfl_leads_86 (v1 : Int) (v2 : Int) (v4 : Int) (m : mR) : Option (Sum (Int × Int) (Int)) :=
  rfl_leads_87 v1 v2 v4 0 m
theorem dg_leads_86 (w : wX) (c : Nat → Option am_C) (N D : Nat) (bb : Nat) (v1 : Int) (v2 : Int) (v4 : Int) (q1 : R32 v1) (q2 : R32 v2) (q4 : R32 v4) (m : mR) (hm : Cn m) (j : Nat → Int) (Q2 : Sum (Int × Int) (Int) → ag_Re af_T → Prop) (H1 : ∀ s j, cs_leads_36 s → PP bb w D pm_286 (hd_leads_36 c N v1 v2 m s j) (Q2 (.inl s))) (H2 : ∀ x j, cx_leads_36 x → PP bb w D pm_286 (ex_leads_36 c N v1 v2 m x j) (Q2 (.inr x))) : PP bb w D pm_286 (86, [(0, .ref 189), (1, .int (i32 v1)), (2, .int (i32 v2)), (3, .int (i32 (j 3))), (4, .int (i32 v4))], [], (mhp m c, N), 0, 0) (QS Q2 (rfl_leads_86 v1 v2 v4 m)) := by
  unfold rfl_leads_86
  show PP bb w D pm_286 (86, [(0, .ref 189), (1, .int (i32 v1)), (2, .int (i32 v2)), (3, .int (i32 (j 3))), (4, .int (i32 v4))], [], (mhp (mO m [] []) c, N), 0, 0) _
  refine P_ld 87 (.int (i32 0)) rfl (fun _ => rfl) ?_
  exact dg_leads_87 w c N D bb v1 v2 v4 0 q1 q2 q4 (l32 0 rfl) m hm (jk [(3, j 3)]) Q2 H1 H2
def rfl_leads_82 (v1 : Int) (v2 : Int) (v4 : Int) (m : mR) : Option (Sum (Int × Int) (Int)) :=
  rfl_leads_87 v1 v2 v4 1 m
theorem dg_leads_82 (w : wX) (c : Nat → Option am_C) (N D : Nat) (bb : Nat) (v1 : Int) (v2 : Int) (v4 : Int) (q1 : R32 v1) (q2 : R32 v2) (q4 : R32 v4) (m : mR) (hm : Cn m) (j : Nat → Int) (Q2 : Sum (Int × Int) (Int) → ag_Re af_T → Prop) (H1 : ∀ s j, cs_leads_36 s → PP bb w D pm_286 (hd_leads_36 c N v1 v2 m s j) (Q2 (.inl s))) (H2 : ∀ x j, cx_leads_36 x → PP bb w D pm_286 (ex_leads_36 c N v1 v2 m x j) (Q2 (.inr x))) : PP bb w D pm_286 (82, [(0, .ref 189), (1, .int (i32 v1)), (2, .int (i32 v2)), (3, .int (i32 (j 3))), (4, .int (i32 v4))], [], (mhp m c, N), 0, 0) (QS Q2 (rfl_leads_82 v1 v2 v4 m)) := by
  unfold rfl_leads_82
  show PP bb w D pm_286 (82, [(0, .ref 189), (1, .int (i32 v1)), (2, .int (i32 v2)), (3, .int (i32 (j 3))), (4, .int (i32 v4))], [], (mhp (mO m [] []) c, N), 0, 0) _
  refine P_ld 83 (.int (i32 1)) rfl (fun _ => rfl) ?_
  refine P_goto 87 rfl (fun _ => rfl) ?_
  exact dg_leads_87 w c N D bb v1 v2 v4 1 q1 q2 q4 (l32 1 rfl) m hm (jk [(3, j 3)]) Q2 H1 H2
def rfb_leads_36 (v1 : Int) (v2 : Int) (m : mR) (s : Int × Int) : Option (Sum (Int × Int) (Int)) :=
  if cut ((cut (8 * v1)) + ((m.2 42) v1)) ≤ s.2 then
    some (.inr s.1)
  else
    if s.1 = 0 then
      if (m.2 45) s.2 < 0 then
        rfl_leads_86 v1 v2 s.2 m
      else
        if (m.2 38) ((m.2 45) s.2) = v2 then
          rfl_leads_82 v1 v2 s.2 m
        else
          rfl_leads_86 v1 v2 s.2 m
    else
      rfl_leads_82 v1 v2 s.2 m
theorem dh_leads_36 (w : wX) (c : Nat → Option am_C) (N D : Nat) (v1 : Int) (v2 : Int) (q1 : R32 v1) (q2 : R32 v2) (m : mR) (hm : Cn m) (bb : Nat) (Q2 : Sum (Int × Int) (Int) → ag_Re af_T → Prop) (H1 : ∀ s j, cs_leads_36 s → PP bb w D pm_286 (hd_leads_36 c N v1 v2 m s j) (Q2 (.inl s))) (H2 : ∀ x j, cx_leads_36 x → PP bb w D pm_286 (ex_leads_36 c N v1 v2 m x j) (Q2 (.inr x))) (s : Int × Int) (j : Nat → Int) (hs : cs_leads_36 s) : PP (bb + 1) w D pm_286 (hd_leads_36 c N v1 v2 m s j) (QS Q2 (rfb_leads_36 v1 v2 m s)) := by
  obtain ⟨g3, g4⟩ := hs
  unfold rfb_leads_36
  show PP (bb + 1) w D pm_286 (36, [(0, .ref 189), (1, .int (i32 v1)), (2, .int (i32 v2)), (3, .int (i32 s.1)), (4, .int (i32 s.2))], [], (mhp (mO m [] []) c, N), 0, 0) _
  refine P1_ld 38 (.int (i32 s.2)) rfl (fun _ => rfl) ?_
  refine P_ld 40 (.int (i32 8)) rfl (fun _ => rfl) ?_
  refine P_ld 41 (.int (i32 v1)) rfl (fun _ => rfl) ?_
  refine P_op 42 (cut (8 * v1)) _ rfl (fun _ => rfl) o_mul ?_
  refine P_gf 46 (.ref 212) rfl rfl rfl rfl rfl rfl ?_
  refine P_ld 47 (.int (i32 v1)) rfl (fun _ => rfl) ?_
  refine P_iald2 48 42 (m.2 42) rfl rfl rfl q1 rfl ?_
  refine P_op 49 (cut ((cut (8 * v1)) + ((m.2 42) v1))) _ rfl (fun _ => rfl) o_add ?_
  refine P_icF 94 52 rfl rfl rfl g4 cut_r rfl (fun h3 => ?_) (fun h3 => ?_)
  · skip
    refine P_some ?_
    exact H2 s.1 (jk [(1, v1), (2, v2), (4, s.2)]) g3
  · skip
    refine P_ld 53 (.int (i32 s.1)) rfl (fun _ => rfl) ?_
    refine P_ifE 82 56 rfl rfl rfl g3 rfl (fun h4 => ?_) (fun h4 => ?_)
    · skip
      refine P_gf 60 (.ref 215) rfl rfl rfl rfl rfl rfl ?_
      refine P_ld 62 (.int (i32 s.2)) rfl (fun _ => rfl) ?_
      refine P_iald2 63 45 (m.2 45) rfl rfl rfl g4 rfl ?_
      refine P_ifF 86 66 rfl rfl rfl (rE_i (Cn_a hm 45) rfl _) rfl (fun h5 => ?_) (fun h5 => ?_)
      · skip
        exact dg_leads_86 w c N D bb v1 v2 s.2 q1 q2 g4 m hm (jk [(3, s.1)]) Q2 H1 H2
      · skip
        refine P_gf 70 (.ref 208) rfl rfl rfl rfl rfl rfl ?_
        refine P_gf 74 (.ref 215) rfl rfl rfl rfl rfl rfl ?_
        refine P_ld 76 (.int (i32 s.2)) rfl (fun _ => rfl) ?_
        refine P_iald2 77 45 (m.2 45) rfl rfl rfl g4 rfl ?_
        refine P_iald2 78 38 (m.2 38) rfl rfl rfl (rE_i (Cn_a hm 45) rfl _) rfl ?_
        refine P_ld 79 (.int (i32 v2)) rfl (fun _ => rfl) ?_
        refine P_icE 86 82 rfl rfl rfl (rE_i (Cn_a hm 38) rfl _) q2 rfl (fun h6 => ?_) (fun h6 => ?_)
        · skip
          exact dg_leads_82 w c N D bb v1 v2 s.2 q1 q2 g4 m hm (jk [(3, s.1)]) Q2 H1 H2
        · skip
          exact dg_leads_86 w c N D bb v1 v2 s.2 q1 q2 g4 m hm (jk [(3, s.1)]) Q2 H1 H2
    · skip
      exact dg_leads_82 w c N D bb v1 v2 s.2 q1 q2 g4 m hm (jk [(3, s.1)]) Q2 H1 H2
def rfl_leads_29 (v1 : Int) (v2 : Int) (u0 : Int) (m : mR) : Option Int :=
  bnd (whl (rfb_leads_36 v1 v2 m) (u0, cut (8 * v1))) (fun e7 : Int =>
    some e7)
theorem dg_leads_29 (w : wX) (c : Nat → Option am_C) (N D : Nat) (bb : Nat) (v1 : Int) (v2 : Int) (u0 : Int) (q1 : R32 v1) (q2 : R32 v2) (r0 : R32 u0) (m : mR) (hm : Cn m) (j : Nat → Int) : PP bb w D pm_286 (29, [(0, .ref 189), (1, .int (i32 v1)), (2, .int (i32 v2))], [.int (i32 u0)], (mhp m c, N), 0, 0) (QS (FP1 (mhp m c, N)) (rfl_leads_29 v1 v2 u0 m)) := by
  unfold rfl_leads_29
  show PP bb w D pm_286 (29, [(0, .ref 189), (1, .int (i32 v1)), (2, .int (i32 v2))], [.int (i32 u0)], (mhp (mO m [] []) c, N), 0, 0) _
  refine P_sto 30 [(3, .int (i32 u0)), (0, .ref 189), (1, .int (i32 v1)), (2, .int (i32 v2))] rfl (fun _ => rfl) ?_
  refine P_ld 32 (.int (i32 8)) rfl (fun _ => rfl) ?_
  refine P_ld 33 (.int (i32 v1)) rfl (fun _ => rfl) ?_
  refine P_op 34 (cut (8 * v1)) _ rfl (fun _ => rfl) o_mul ?_
  refine P_sto 36 [(4, .int (i32 (cut (8 * v1)))), (3, .int (i32 u0)), (0, .ref 189), (1, .int (i32 v1)), (2, .int (i32 v2))] rfl (fun _ => rfl) ?_
  refine P_lv (b := [(0, .ref 189), (1, .int (i32 v1)), (2, .int (i32 v2)), (3, .int (i32 u0)), (4, .int (i32 (cut (8 * v1))))]) rfl rfl ⟨rfl, rfl, rfl, rfl, rfl, trivial⟩ ?_
  refine P_bnd ?_
  refine P_whl (fun bb Q2 H1 H2 s9 j9 hs9 => dh_leads_36 w c N D v1 v2 q1 q2 m hm bb Q2 H1 H2 s9 j9 hs9) bb (fun e7 j q8 => ?_) (u0, cut (8 * v1)) (jk []) ⟨r0, cut_r⟩
  have q9 := q8
  show PP bb w D pm_286 (94, [(0, .ref 189), (1, .int (i32 (j 1))), (2, .int (i32 (j 2))), (3, .int (i32 e7)), (4, .int (i32 (j 4)))], [], (mhp (mO m [] []) c, N), 0, 0) (QS _ (some e7))
  refine P_ld 95 (.int (i32 e7)) rfl (fun _ => rfl) ?_
  exact P_rp1 rfl q9
def rfl_leads_28 (v1 : Int) (v2 : Int) (m : mR) : Option Int :=
  rfl_leads_29 v1 v2 0 m
theorem dg_leads_28 (w : wX) (c : Nat → Option am_C) (N D : Nat) (bb : Nat) (v1 : Int) (v2 : Int) (q1 : R32 v1) (q2 : R32 v2) (m : mR) (hm : Cn m) (j : Nat → Int) : PP bb w D pm_286 (28, [(0, .ref 189), (1, .int (i32 v1)), (2, .int (i32 v2))], [], (mhp m c, N), 0, 0) (QS (FP1 (mhp m c, N)) (rfl_leads_28 v1 v2 m)) := by
  unfold rfl_leads_28
  show PP bb w D pm_286 (28, [(0, .ref 189), (1, .int (i32 v1)), (2, .int (i32 v2))], [], (mhp (mO m [] []) c, N), 0, 0) _
  refine P_ld 29 (.int (i32 0)) rfl (fun _ => rfl) ?_
  exact dg_leads_29 w c N D bb v1 v2 0 q1 q2 (l32 0 rfl) m hm (jk [])
def rf_leads (v1 : Int) (v2 : Int) (m : mR) : Option Int :=
  if (m.2 44) v1 < 0 then
    rfl_leads_28 v1 v2 m
  else
    if (m.2 38) ((m.2 44) v1) = v2 then
      rfl_leads_29 v1 v2 1 m
    else
      rfl_leads_28 v1 v2 m
theorem D_leads (w : wX) (m : mR) (c : Nat → Option am_C) (N D : Nat) (hm : Cn m) (v1 : Int) (v2 : Int) (q1 : R32 v1) (q2 : R32 v2) : PC w D 286 [.ref 189, .int (i32 v1), .int (i32 v2)] (mhp m c, N) (QS (FP1 (mhp m c, N)) (rf_leads v1 v2 m)) := by
  refine Pc_of (fun D bb => ?_) D
  unfold rf_leads
  show PP bb w D pm_286 (0, [(0, .ref 189), (1, .int (i32 v1)), (2, .int (i32 v2))], [], (mhp (mO m [] []) c, N), 0, 0) _
  refine P_gf 4 (.ref 214) rfl rfl rfl rfl rfl rfl ?_
  refine P_ld 5 (.int (i32 v1)) rfl (fun _ => rfl) ?_
  refine P_iald2 6 44 (m.2 44) rfl rfl rfl q1 rfl ?_
  refine P_ifF 28 9 rfl rfl rfl (rE_i (Cn_a hm 44) rfl _) rfl (fun h10 => ?_) (fun h10 => ?_)
  · skip
    exact dg_leads_28 w c N D bb v1 v2 q1 q2 m hm (jk [])
  · skip
    refine P_gf 13 (.ref 208) rfl rfl rfl rfl rfl rfl ?_
    refine P_gf 17 (.ref 214) rfl rfl rfl rfl rfl rfl ?_
    refine P_ld 18 (.int (i32 v1)) rfl (fun _ => rfl) ?_
    refine P_iald2 19 44 (m.2 44) rfl rfl rfl q1 rfl ?_
    refine P_iald2 20 38 (m.2 38) rfl rfl rfl (rE_i (Cn_a hm 44) rfl _) rfl ?_
    refine P_ld 21 (.int (i32 v2)) rfl (fun _ => rfl) ?_
    refine P_icE 28 24 rfl rfl rfl (rE_i (Cn_a hm 38) rfl _) q2 rfl (fun h11 => ?_) (fun h11 => ?_)
    · skip
      refine P_ld 25 (.int (i32 1)) rfl (fun _ => rfl) ?_
      refine P_goto 29 rfl (fun _ => rfl) ?_
      exact dg_leads_29 w c N D bb v1 v2 1 q1 q2 (l32 1 rfl) m hm (jk [])
    · skip
      exact dg_leads_28 w c N D bb v1 v2 q1 q2 m hm (jk [])
def cs_comesRound_13 (s : Int × mR) : Prop := R32 s.1 ∧ Cn s.2
def cx_comesRound_13 : (mR) → Prop := (fun (e : mR) => Cn e)
def hd_comesRound_13 (c : Nat → Option am_C) (N : Nat) (v1 : Int) (s : Int × mR) (j : Nat → Int) : ag_St af_T := (13, [(0, .ref 189), (1, .int (i32 v1)), (2, .int (i32 s.1))], [], (mhp s.2 c, N), 0, 0)
def ex_comesRound_13 (c : Nat → Option am_C) (N : Nat) (v1 : Int) : (mR) → (Nat → Int) → ag_St af_T := (fun (e : mR) (j : Nat → Int) => ((39, [(0, .ref 189), (1, .int (i32 v1)), (2, .int (i32 (j 2)))], [], (mhp e c, N), 0, 0) : ag_St af_T))
def cs_comesRound_41 (s : Int × mR) : Prop := R32 s.1 ∧ Cn s.2
def cx_comesRound_41 : (mR) → Prop := (fun (e : mR) => Cn e)
def hd_comesRound_41 (c : Nat → Option am_C) (N : Nat) (v1 : Int) (s : Int × mR) (j : Nat → Int) : ag_St af_T := (41, [(0, .ref 189), (1, .int (i32 v1)), (2, .int (i32 s.1)), (3, .int (i32 (j 3))), (4, .int (i32 (j 4)))], [], (mhp s.2 c, N), 0, 0)
def ex_comesRound_41 (c : Nat → Option am_C) (N : Nat) (v1 : Int) : (mR) → (Nat → Int) → ag_St af_T := (fun (e : mR) (j : Nat → Int) => ((138, [(0, .ref 189), (1, .int (i32 v1)), (2, .int (i32 (j 2))), (3, .int (i32 (j 3))), (4, .int (i32 (j 4)))], [], (mhp e c, N), 0, 0) : ag_St af_T))
def cs_comesRound_49 (s : Int × Int × mR) : Prop := R32 s.1 ∧ R32 s.2.1 ∧ Cn s.2.2
def cx_comesRound_49 : (Int × mR) → Prop := (fun (e : Int × mR) => R32 e.1 ∧ Cn e.2)
def hd_comesRound_49 (c : Nat → Option am_C) (N : Nat) (v1 : Int) (s : Int × Int × mR) (j : Nat → Int) : ag_St af_T := (49, [(0, .ref 189), (1, .int (i32 v1)), (2, .int (i32 s.1)), (3, .int (i32 s.2.1)), (4, .int (i32 (j 4)))], [], (mhp s.2.2 c, N), 0, 0)
def ex_comesRound_49 (c : Nat → Option am_C) (N : Nat) (v1 : Int) : (Int × mR) → (Nat → Int) → ag_St af_T := (fun (e : Int × mR) (j : Nat → Int) => ((135, [(0, .ref 189), (1, .int (i32 v1)), (2, .int (i32 e.1)), (3, .int (i32 (j 3))), (4, .int (i32 (j 4)))], [], (mhp e.2 c, N), 0, 0) : ag_St af_T))
def cs_comesRound_81 (s : Int × Int × mR) : Prop := R32 s.1 ∧ R32 s.2.1 ∧ Cn s.2.2
def cx_comesRound_81 : (Int × mR) → Prop := (fun (e : Int × mR) => R32 e.1 ∧ Cn e.2)
def hd_comesRound_81 (c : Nat → Option am_C) (N : Nat) (v1 : Int) (v3 : Int) (s : Int × Int × mR) (j : Nat → Int) : ag_St af_T := (81, [(0, .ref 189), (1, .int (i32 v1)), (2, .int (i32 s.1)), (3, .int (i32 v3)), (4, .int (i32 s.2.1))], [], (mhp s.2.2 c, N), 0, 0)
def ex_comesRound_81 (c : Nat → Option am_C) (N : Nat) (v1 : Int) (v3 : Int) : (Int × mR) → (Nat → Int) → ag_St af_T := (fun (e : Int × mR) (j : Nat → Int) => ((129, [(0, .ref 189), (1, .int (i32 v1)), (2, .int (i32 e.1)), (3, .int (i32 v3)), (4, .int (i32 (j 4)))], [], (mhp e.2 c, N), 0, 0) : ag_St af_T))
def rfl_comesRound_138 (v1 : Int) (m : mR) : Option (Int × mR) :=
  some ((m.2 126) v1, m)
theorem dg_comesRound_138 (w : wX) (c : Nat → Option am_C) (N D : Nat) (bb : Nat) (v1 : Int) (q1 : R32 v1) (m : mR) (hm : Cn m) (j : Nat → Int) : PP bb w D pm_285 (138, [(0, .ref 189), (1, .int (i32 v1)), (2, .int (i32 (j 2))), (3, .int (i32 (j 3))), (4, .int (i32 (j 4)))], [], (mhp m c, N), 0, 0) (QS (FR1 c N) (rfl_comesRound_138 v1 m)) := by
  unfold rfl_comesRound_138
  show PP bb w D pm_285 (138, [(0, .ref 189), (1, .int (i32 v1)), (2, .int (i32 (j 2))), (3, .int (i32 (j 3))), (4, .int (i32 (j 4)))], [], (mhp (mO m [] []) c, N), 0, 0) _
  refine P_gf 142 (.ref 284) rfl rfl rfl rfl rfl rfl ?_
  refine P_ld 143 (.int (i32 v1)) rfl (fun _ => rfl) ?_
  refine P_bald2 144 126 (m.2 126) rfl rfl rfl q1 rfl ?_
  exact P_re1 rfl (rE_i (Cn_a hm 126) rfl _) hm
def rfl_comesRound_135 (v1 : Int) (v2 : Int) (m : mR) : Option (Sum (Int × mR) (mR)) :=
  some (.inl (v2, m))
theorem dg_comesRound_135 (w : wX) (c : Nat → Option am_C) (N D : Nat) (bb : Nat) (v1 : Int) (v2 : Int) (q1 : R32 v1) (q2 : R32 v2) (m : mR) (hm : Cn m) (j : Nat → Int) (Q2 : Sum (Int × mR) (mR) → ag_Re af_T → Prop) (H1 : ∀ s j, cs_comesRound_41 s → PP bb w D pm_285 (hd_comesRound_41 c N v1 s j) (Q2 (.inl s))) (H2 : ∀ x j, cx_comesRound_41 x → PP bb w D pm_285 (ex_comesRound_41 c N v1 x j) (Q2 (.inr x))) : PP bb w D pm_285 (135, [(0, .ref 189), (1, .int (i32 v1)), (2, .int (i32 v2)), (3, .int (i32 (j 3))), (4, .int (i32 (j 4)))], [], (mhp m c, N), 0, 0) (QS Q2 (rfl_comesRound_135 v1 v2 m)) := by
  unfold rfl_comesRound_135
  show PP bb w D pm_285 (135, [(0, .ref 189), (1, .int (i32 v1)), (2, .int (i32 v2)), (3, .int (i32 (j 3))), (4, .int (i32 (j 4)))], [], (mhp (mO m [] []) c, N), 0, 0) _
  refine P_goto 41 rfl (fun _ => rfl) ?_
  refine P_some ?_
  exact H1 (v2, m) (jk [(3, j 3), (4, j 4)]) ⟨q2, hm⟩
def rfl_comesRound_129 (v1 : Int) (v2 : Int) (v3 : Int) (m : mR) : Option (Sum (Int × Int × mR) (Int × mR)) :=
  some (.inl (v2, cut (v3 + 1), m))
theorem dg_comesRound_129 (w : wX) (c : Nat → Option am_C) (N D : Nat) (bb : Nat) (v1 : Int) (v2 : Int) (v3 : Int) (q1 : R32 v1) (q2 : R32 v2) (q3 : R32 v3) (m : mR) (hm : Cn m) (j : Nat → Int) (Q2 : Sum (Int × Int × mR) (Int × mR) → ag_Re af_T → Prop) (H1 : ∀ s j, cs_comesRound_49 s → PP bb w D pm_285 (hd_comesRound_49 c N v1 s j) (Q2 (.inl s))) (H2 : ∀ x j, cx_comesRound_49 x → PP bb w D pm_285 (ex_comesRound_49 c N v1 x j) (Q2 (.inr x))) : PP bb w D pm_285 (129, [(0, .ref 189), (1, .int (i32 v1)), (2, .int (i32 v2)), (3, .int (i32 v3)), (4, .int (i32 (j 4)))], [], (mhp m c, N), 0, 0) (QS Q2 (rfl_comesRound_129 v1 v2 v3 m)) := by
  unfold rfl_comesRound_129
  show PP bb w D pm_285 (129, [(0, .ref 189), (1, .int (i32 v1)), (2, .int (i32 v2)), (3, .int (i32 v3)), (4, .int (i32 (j 4)))], [], (mhp (mO m [] []) c, N), 0, 0) _
  refine P_inc 132 [(3, .int (i32 (cut (v3 + 1)))), (0, .ref 189), (1, .int (i32 v1)), (2, .int (i32 v2)), (4, .int (i32 (j 4)))] rfl rfl (by decide) rfl rfl ?_
  refine P_goto 49 rfl (fun _ => rfl) ?_
  refine P_some ?_
  refine P_lv (b := [(0, .ref 189), (1, .int (i32 v1)), (2, .int (i32 v2)), (3, .int (i32 (cut (v3 + 1)))), (4, .int (i32 (j 4)))]) rfl rfl ⟨rfl, rfl, rfl, rfl, rfl, trivial⟩ ?_
  exact H1 (v2, cut (v3 + 1), m) (jk [(4, j 4)]) ⟨q2, cut_r, hm⟩
def rfl_comesRound_123 (v1 : Int) (v2 : Int) (v3 : Int) (v4 : Int) (m : mR) : Option (Sum (Int × Int × mR) (Int × mR)) :=
  some (.inl (v2, cut (v4 + 1), m))
theorem dg_comesRound_123 (w : wX) (c : Nat → Option am_C) (N D : Nat) (bb : Nat) (v1 : Int) (v2 : Int) (v3 : Int) (v4 : Int) (q1 : R32 v1) (q2 : R32 v2) (q3 : R32 v3) (q4 : R32 v4) (m : mR) (hm : Cn m) (j : Nat → Int) (Q2 : Sum (Int × Int × mR) (Int × mR) → ag_Re af_T → Prop) (H1 : ∀ s j, cs_comesRound_81 s → PP bb w D pm_285 (hd_comesRound_81 c N v1 v3 s j) (Q2 (.inl s))) (H2 : ∀ x j, cx_comesRound_81 x → PP bb w D pm_285 (ex_comesRound_81 c N v1 v3 x j) (Q2 (.inr x))) : PP bb w D pm_285 (123, [(0, .ref 189), (1, .int (i32 v1)), (2, .int (i32 v2)), (3, .int (i32 v3)), (4, .int (i32 v4))], [], (mhp m c, N), 0, 0) (QS Q2 (rfl_comesRound_123 v1 v2 v3 v4 m)) := by
  unfold rfl_comesRound_123
  show PP bb w D pm_285 (123, [(0, .ref 189), (1, .int (i32 v1)), (2, .int (i32 v2)), (3, .int (i32 v3)), (4, .int (i32 v4))], [], (mhp (mO m [] []) c, N), 0, 0) _
  refine P_inc 126 [(4, .int (i32 (cut (v4 + 1)))), (0, .ref 189), (1, .int (i32 v1)), (2, .int (i32 v2)), (3, .int (i32 v3))] rfl rfl (by decide) rfl rfl ?_
  refine P_goto 81 rfl (fun _ => rfl) ?_
  refine P_some ?_
  refine P_lv (b := [(0, .ref 189), (1, .int (i32 v1)), (2, .int (i32 v2)), (3, .int (i32 v3)), (4, .int (i32 (cut (v4 + 1))))]) rfl rfl ⟨rfl, rfl, rfl, rfl, rfl, trivial⟩ ?_
  exact H1 (v2, cut (v4 + 1), m) (jk []) ⟨q2, cut_r, hm⟩
def rfb_comesRound_81 (v1 : Int) (v3 : Int) (s : Int × Int × mR) : Option (Sum (Int × Int × mR) (Int × mR)) :=
  if s.2.2.1 24 ≤ s.2.1 then
    some (.inr (s.1, s.2.2))
  else
    if (s.2.2.2 126) s.2.1 = 0 then
      bnd (rf_leads v3 s.2.1 s.2.2) fun y11 =>
      if y11 = 0 then
        rfl_comesRound_123 v1 s.1 v3 s.2.1 s.2.2
      else
        rfl_comesRound_123 v1 1 v3 s.2.1 (mO s.2.2 [] [(126, upI (s.2.2.2 126) s.2.1 (nar1 1))])
    else
      rfl_comesRound_123 v1 s.1 v3 s.2.1 s.2.2
theorem dh_comesRound_81 (w : wX) (c : Nat → Option am_C) (N D : Nat) (v1 : Int) (v3 : Int) (q1 : R32 v1) (q3 : R32 v3) (bb : Nat) (Q2 : Sum (Int × Int × mR) (Int × mR) → ag_Re af_T → Prop) (H1 : ∀ s j, cs_comesRound_81 s → PP bb w D pm_285 (hd_comesRound_81 c N v1 v3 s j) (Q2 (.inl s))) (H2 : ∀ x j, cx_comesRound_81 x → PP bb w D pm_285 (ex_comesRound_81 c N v1 v3 x j) (Q2 (.inr x))) (s : Int × Int × mR) (j : Nat → Int) (hs : cs_comesRound_81 s) : PP (bb + 1) w D pm_285 (hd_comesRound_81 c N v1 v3 s j) (QS Q2 (rfb_comesRound_81 v1 v3 s)) := by
  obtain ⟨g2, g4, gm⟩ := hs
  unfold rfb_comesRound_81
  show PP (bb + 1) w D pm_285 (81, [(0, .ref 189), (1, .int (i32 v1)), (2, .int (i32 s.1)), (3, .int (i32 v3)), (4, .int (i32 s.2.1))], [], (mhp (mO s.2.2 [] []) c, N), 0, 0) _
  refine P1_ld 83 (.int (i32 s.2.1)) rfl (fun _ => rfl) ?_
  refine P_gf 87 (.int (i32 (s.2.2.1 24))) rfl rfl rfl rfl rfl rfl ?_
  refine P_icF 129 90 rfl rfl rfl g4 (Cn_i gm 24 rfl) rfl (fun h9 => ?_) (fun h9 => ?_)
  · skip
    refine P_some ?_
    exact H2 (s.1, s.2.2) (jk [(4, s.2.1)]) ⟨g2, gm⟩
  · skip
    refine P_gf 94 (.ref 284) rfl rfl rfl rfl rfl rfl ?_
    refine P_ld 96 (.int (i32 s.2.1)) rfl (fun _ => rfl) ?_
    refine P_bald2 97 126 (s.2.2.2 126) rfl rfl rfl g4 rfl ?_
    refine P_ifE 123 100 rfl rfl rfl (rE_i (Cn_a gm 126) rfl _) rfl (fun h10 => ?_) (fun h10 => ?_)
    · skip
      refine P_ld 101 (.ref 189) rfl (fun _ => rfl) ?_
      refine P_ld 102 (.int (i32 v3)) rfl (fun _ => rfl) ?_
      refine P_ld 104 (.int (i32 s.2.1)) rfl (fun _ => rfl) ?_
      refine P_cp1 107 286 [.ref 189, .int (i32 v3), .int (i32 s.2.1)] [] rfl (fun _ => rfl) rfl (D_leads w s.2.2 c N D gm v3 s.2.1 q3 g4) (fun y11 h12 => ?_)
      refine P_ifE 113 110 rfl rfl rfl h12 rfl (fun h13 => ?_) (fun h13 => ?_)
      · skip
        refine P_goto 123 rfl (fun _ => rfl) ?_
        exact dg_comesRound_123 w c N D bb v1 s.1 v3 s.2.1 q1 g2 q3 g4 s.2.2 gm (jk []) Q2 H1 H2
      · skip
        refine P_gf 117 (.ref 284) rfl rfl rfl rfl rfl rfl ?_
        refine P_ld 119 (.int (i32 s.2.1)) rfl (fun _ => rfl) ?_
        refine P_ld 120 (.int (i32 1)) rfl (fun _ => rfl) ?_
        refine P_bast2 (a' := [(126, upI (s.2.2.2 126) s.2.1 (nar1 1))]) 121 126 (s.2.2.2 126) rfl rfl rfl g4 rfl rfl ?_
        refine P_ld 122 (.int (i32 1)) rfl (fun _ => rfl) ?_
        refine P_sto 123 [(2, .int (i32 1)), (0, .ref 189), (1, .int (i32 v1)), (3, .int (i32 v3)), (4, .int (i32 s.2.1))] rfl (fun _ => rfl) ?_
        refine P_lv (b := [(0, .ref 189), (1, .int (i32 v1)), (2, .int (i32 1)), (3, .int (i32 v3)), (4, .int (i32 s.2.1))]) rfl rfl ⟨rfl, rfl, rfl, rfl, rfl, trivial⟩ ?_
        exact dg_comesRound_123 w c N D bb v1 1 v3 s.2.1 q1 (l32 1 rfl) q3 g4 (mO s.2.2 [] [(126, upI (s.2.2.2 126) s.2.1 (nar1 1))]) (Cn_mO gm trivial ⟨(rE_ui (Cn_a gm 126) rfl t32_r), trivial⟩) (jk []) Q2 H1 H2
    · skip
      exact dg_comesRound_123 w c N D bb v1 s.1 v3 s.2.1 q1 g2 q3 g4 s.2.2 gm (jk []) Q2 H1 H2
def rfb_comesRound_49 (v1 : Int) (s : Int × Int × mR) : Option (Sum (Int × Int × mR) (Int × mR)) :=
  if s.2.2.1 24 ≤ s.2.1 then
    some (.inr (s.1, s.2.2))
  else
    if (s.2.2.2 126) s.2.1 = 0 then
      rfl_comesRound_129 v1 s.1 s.2.1 s.2.2
    else
      if (s.2.2.2 41) s.2.1 ≤ 0 then
        bnd (whl (rfb_comesRound_81 v1 s.2.1) (s.1, 0, s.2.2)) (fun e19 : Int × mR =>
          rfl_comesRound_129 v1 e19.1 s.2.1 e19.2)
      else
        rfl_comesRound_129 v1 s.1 s.2.1 s.2.2
theorem dh_comesRound_49 (w : wX) (c : Nat → Option am_C) (N D : Nat) (v1 : Int) (q1 : R32 v1) (bb : Nat) (Q2 : Sum (Int × Int × mR) (Int × mR) → ag_Re af_T → Prop) (H1 : ∀ s j, cs_comesRound_49 s → PP bb w D pm_285 (hd_comesRound_49 c N v1 s j) (Q2 (.inl s))) (H2 : ∀ x j, cx_comesRound_49 x → PP bb w D pm_285 (ex_comesRound_49 c N v1 x j) (Q2 (.inr x))) (s : Int × Int × mR) (j : Nat → Int) (hs : cs_comesRound_49 s) : PP (bb + 1) w D pm_285 (hd_comesRound_49 c N v1 s j) (QS Q2 (rfb_comesRound_49 v1 s)) := by
  obtain ⟨g2, g3, gm⟩ := hs
  unfold rfb_comesRound_49
  show PP (bb + 1) w D pm_285 (49, [(0, .ref 189), (1, .int (i32 v1)), (2, .int (i32 s.1)), (3, .int (i32 s.2.1)), (4, .int (i32 (j 4)))], [], (mhp (mO s.2.2 [] []) c, N), 0, 0) _
  refine P1_ld 50 (.int (i32 s.2.1)) rfl (fun _ => rfl) ?_
  refine P_gf 54 (.int (i32 (s.2.2.1 24))) rfl rfl rfl rfl rfl rfl ?_
  refine P_icF 135 57 rfl rfl rfl g3 (Cn_i gm 24 rfl) rfl (fun h16 => ?_) (fun h16 => ?_)
  · skip
    refine P_some ?_
    exact H2 (s.1, s.2.2) (jk [(3, s.2.1), (4, j 4)]) ⟨g2, gm⟩
  · skip
    refine P_gf 61 (.ref 284) rfl rfl rfl rfl rfl rfl ?_
    refine P_ld 62 (.int (i32 s.2.1)) rfl (fun _ => rfl) ?_
    refine P_bald2 63 126 (s.2.2.2 126) rfl rfl rfl g3 rfl ?_
    refine P_ifF 129 66 rfl rfl rfl (rE_i (Cn_a gm 126) rfl _) rfl (fun h17 => ?_) (fun h17 => ?_)
    · skip
      exact dg_comesRound_129 w c N D bb v1 s.1 s.2.1 q1 g2 g3 s.2.2 gm (jk [(4, j 4)]) Q2 H1 H2
    · skip
      refine P_gf 70 (.ref 211) rfl rfl rfl rfl rfl rfl ?_
      refine P_ld 71 (.int (i32 s.2.1)) rfl (fun _ => rfl) ?_
      refine P_iald2 72 41 (s.2.2.2 41) rfl rfl rfl g3 rfl ?_
      refine P_ifF 78 75 rfl rfl rfl (rE_i (Cn_a gm 41) rfl _) rfl (fun h18 => ?_) (fun h18 => ?_)
      · skip
        refine P_ld 79 (.int (i32 0)) rfl (fun _ => rfl) ?_
        refine P_sto 81 [(4, .int (i32 0)), (0, .ref 189), (1, .int (i32 v1)), (2, .int (i32 s.1)), (3, .int (i32 s.2.1))] rfl (fun _ => rfl) ?_
        refine P_lv (b := [(0, .ref 189), (1, .int (i32 v1)), (2, .int (i32 s.1)), (3, .int (i32 s.2.1)), (4, .int (i32 0))]) rfl rfl ⟨rfl, rfl, rfl, rfl, rfl, trivial⟩ ?_
        refine P_bnd ?_
        refine P_whl (fun bb Q2 H1 H2 s9 j9 hs9 => dh_comesRound_81 w c N D v1 s.2.1 q1 g3 bb Q2 H1 H2 s9 j9 hs9) bb (fun e19 j q20 => ?_) (s.1, 0, s.2.2) (jk []) ⟨g2, (l32 0 rfl), gm⟩
        obtain ⟨q21, q22⟩ := q20
        show PP bb w D pm_285 (129, [(0, .ref 189), (1, .int (i32 v1)), (2, .int (i32 e19.1)), (3, .int (i32 s.2.1)), (4, .int (i32 (j 4)))], [], (mhp (mO e19.2 [] []) c, N), 0, 0) (QS _ (rfl_comesRound_129 v1 e19.1 s.2.1 e19.2))
        exact dg_comesRound_129 w c N D bb v1 e19.1 s.2.1 q1 q21 g3 e19.2 q22 (jk [(4, j 4)]) Q2 H1 H2
      · skip
        refine P_goto 129 rfl (fun _ => rfl) ?_
        exact dg_comesRound_129 w c N D bb v1 s.1 s.2.1 q1 g2 g3 s.2.2 gm (jk [(4, j 4)]) Q2 H1 H2
def rfb_comesRound_41 (v1 : Int) (s : Int × mR) : Option (Sum (Int × mR) (mR)) :=
  if s.1 = 0 then
    some (.inr s.2)
  else
    bnd (whl (rfb_comesRound_49 v1) (0, 0, s.2)) (fun e25 : Int × mR =>
      rfl_comesRound_135 v1 e25.1 e25.2)
theorem dh_comesRound_41 (w : wX) (c : Nat → Option am_C) (N D : Nat) (v1 : Int) (q1 : R32 v1) (bb : Nat) (Q2 : Sum (Int × mR) (mR) → ag_Re af_T → Prop) (H1 : ∀ s j, cs_comesRound_41 s → PP bb w D pm_285 (hd_comesRound_41 c N v1 s j) (Q2 (.inl s))) (H2 : ∀ x j, cx_comesRound_41 x → PP bb w D pm_285 (ex_comesRound_41 c N v1 x j) (Q2 (.inr x))) (s : Int × mR) (j : Nat → Int) (hs : cs_comesRound_41 s) : PP (bb + 1) w D pm_285 (hd_comesRound_41 c N v1 s j) (QS Q2 (rfb_comesRound_41 v1 s)) := by
  obtain ⟨g2, gm⟩ := hs
  unfold rfb_comesRound_41
  show PP (bb + 1) w D pm_285 (41, [(0, .ref 189), (1, .int (i32 v1)), (2, .int (i32 s.1)), (3, .int (i32 (j 3))), (4, .int (i32 (j 4)))], [], (mhp (mO s.2 [] []) c, N), 0, 0) _
  refine P1_ld 42 (.int (i32 s.1)) rfl (fun _ => rfl) ?_
  refine P_ifF 138 45 rfl rfl rfl g2 rfl (fun h24 => ?_) (fun h24 => ?_)
  · skip
    refine P_some ?_
    exact H2 s.2 (jk [(2, s.1), (3, j 3), (4, j 4)]) gm
  · skip
    refine P_ld 46 (.int (i32 0)) rfl (fun _ => rfl) ?_
    refine P_sto 47 [(2, .int (i32 0)), (0, .ref 189), (1, .int (i32 v1)), (3, .int (i32 (j 3))), (4, .int (i32 (j 4)))] rfl (fun _ => rfl) ?_
    refine P_ld 48 (.int (i32 0)) rfl (fun _ => rfl) ?_
    refine P_sto 49 [(3, .int (i32 0)), (2, .int (i32 0)), (0, .ref 189), (1, .int (i32 v1)), (4, .int (i32 (j 4)))] rfl (fun _ => rfl) ?_
    refine P_lv (b := [(0, .ref 189), (1, .int (i32 v1)), (2, .int (i32 0)), (3, .int (i32 0)), (4, .int (i32 (j 4)))]) rfl rfl ⟨rfl, rfl, rfl, rfl, rfl, trivial⟩ ?_
    refine P_bnd ?_
    refine P_whl (fun bb Q2 H1 H2 s9 j9 hs9 => dh_comesRound_49 w c N D v1 q1 bb Q2 H1 H2 s9 j9 hs9) bb (fun e25 j q26 => ?_) (0, 0, s.2) (jk [(4, j 4)]) ⟨(l32 0 rfl), (l32 0 rfl), gm⟩
    obtain ⟨q27, q28⟩ := q26
    show PP bb w D pm_285 (135, [(0, .ref 189), (1, .int (i32 v1)), (2, .int (i32 e25.1)), (3, .int (i32 (j 3))), (4, .int (i32 (j 4)))], [], (mhp (mO e25.2 [] []) c, N), 0, 0) (QS _ (rfl_comesRound_135 v1 e25.1 e25.2))
    exact dg_comesRound_135 w c N D bb v1 e25.1 q1 q27 e25.2 q28 (jk [(3, j 3), (4, j 4)]) Q2 H1 H2
def rfl_comesRound_39 (v1 : Int) (m : mR) : Option (Int × mR) :=
  bnd (whl (rfb_comesRound_41 v1) (1, m)) (fun e29 : mR =>
    rfl_comesRound_138 v1 e29)
theorem dg_comesRound_39 (w : wX) (c : Nat → Option am_C) (N D : Nat) (bb : Nat) (v1 : Int) (q1 : R32 v1) (m : mR) (hm : Cn m) (j : Nat → Int) : PP bb w D pm_285 (39, [(0, .ref 189), (1, .int (i32 v1)), (2, .int (i32 (j 2)))], [], (mhp m c, N), 0, 0) (QS (FR1 c N) (rfl_comesRound_39 v1 m)) := by
  unfold rfl_comesRound_39
  show PP bb w D pm_285 (39, [(0, .ref 189), (1, .int (i32 v1)), (2, .int (i32 (j 2)))], [], (mhp (mO m [] []) c, N), 0, 0) _
  refine P_ld 40 (.int (i32 1)) rfl (fun _ => rfl) ?_
  refine P_sto 41 [(2, .int (i32 1)), (0, .ref 189), (1, .int (i32 v1))] rfl (fun _ => rfl) ?_
  refine P_lv (b := [(0, .ref 189), (1, .int (i32 v1)), (2, .int (i32 1)), (3, .int (i32 0)), (4, .int (i32 0))]) rfl rfl ⟨rfl, rfl, rfl, trivial⟩ ?_
  refine P_bnd ?_
  refine P_whl (fun bb Q2 H1 H2 s9 j9 hs9 => dh_comesRound_41 w c N D v1 q1 bb Q2 H1 H2 s9 j9 hs9) bb (fun e29 j q30 => ?_) (1, m) (jk []) ⟨(l32 1 rfl), hm⟩
  have q31 := q30
  show PP bb w D pm_285 (138, [(0, .ref 189), (1, .int (i32 v1)), (2, .int (i32 (j 2))), (3, .int (i32 (j 3))), (4, .int (i32 (j 4)))], [], (mhp (mO e29 [] []) c, N), 0, 0) (QS _ (rfl_comesRound_138 v1 e29))
  exact dg_comesRound_138 w c N D bb v1 q1 e29 q31 (jk [(2, j 2), (3, j 3), (4, j 4)])
def rfb_comesRound_13 (v1 : Int) (s : Int × mR) : Option (Sum (Int × mR) (mR)) :=
  if s.2.1 24 ≤ s.1 then
    some (.inr s.2)
  else
    bnd (rf_leads v1 s.1 s.2) fun y34 =>
    some (.inl (cut (s.1 + 1), (mO s.2 [] [(126, upI (s.2.2 126) s.1 (nar1 y34))])))
theorem dh_comesRound_13 (w : wX) (c : Nat → Option am_C) (N D : Nat) (v1 : Int) (q1 : R32 v1) (bb : Nat) (Q2 : Sum (Int × mR) (mR) → ag_Re af_T → Prop) (H1 : ∀ s j, cs_comesRound_13 s → PP bb w D pm_285 (hd_comesRound_13 c N v1 s j) (Q2 (.inl s))) (H2 : ∀ x j, cx_comesRound_13 x → PP bb w D pm_285 (ex_comesRound_13 c N v1 x j) (Q2 (.inr x))) (s : Int × mR) (j : Nat → Int) (hs : cs_comesRound_13 s) : PP (bb + 1) w D pm_285 (hd_comesRound_13 c N v1 s j) (QS Q2 (rfb_comesRound_13 v1 s)) := by
  obtain ⟨g2, gm⟩ := hs
  unfold rfb_comesRound_13
  show PP (bb + 1) w D pm_285 (13, [(0, .ref 189), (1, .int (i32 v1)), (2, .int (i32 s.1))], [], (mhp (mO s.2 [] []) c, N), 0, 0) _
  refine P1_ld 14 (.int (i32 s.1)) rfl (fun _ => rfl) ?_
  refine P_gf 18 (.int (i32 (s.2.1 24))) rfl rfl rfl rfl rfl rfl ?_
  refine P_icF 39 21 rfl rfl rfl g2 (Cn_i gm 24 rfl) rfl (fun h33 => ?_) (fun h33 => ?_)
  · skip
    refine P_some ?_
    exact H2 s.2 (jk [(2, s.1)]) gm
  · skip
    refine P_gf 25 (.ref 284) rfl rfl rfl rfl rfl rfl ?_
    refine P_ld 26 (.int (i32 s.1)) rfl (fun _ => rfl) ?_
    refine P_ld 27 (.ref 189) rfl (fun _ => rfl) ?_
    refine P_ld 28 (.int (i32 v1)) rfl (fun _ => rfl) ?_
    refine P_ld 29 (.int (i32 s.1)) rfl (fun _ => rfl) ?_
    refine P_cp1 32 286 [.ref 189, .int (i32 v1), .int (i32 s.1)] [.int (i32 s.1), .ref 284] rfl (fun _ => rfl) rfl (D_leads w s.2 c N D gm v1 s.1 q1 g2) (fun y34 h35 => ?_)
    refine P_bast2 (a' := [(126, upI (s.2.2 126) s.1 (nar1 y34))]) 33 126 (s.2.2 126) rfl rfl rfl g2 rfl rfl ?_
    refine P_inc 36 [(2, .int (i32 (cut (s.1 + 1)))), (0, .ref 189), (1, .int (i32 v1))] rfl rfl (by decide) rfl rfl ?_
    refine P_goto 13 rfl (fun _ => rfl) ?_
    refine P_some ?_
    refine P_lv (b := [(0, .ref 189), (1, .int (i32 v1)), (2, .int (i32 (cut (s.1 + 1))))]) rfl rfl ⟨rfl, rfl, rfl, trivial⟩ ?_
    exact H1 (cut (s.1 + 1), (mO s.2 [] [(126, upI (s.2.2 126) s.1 (nar1 y34))])) (jk []) ⟨cut_r, (Cn_mO gm trivial ⟨(rE_ui (Cn_a gm 126) rfl t32_r), trivial⟩)⟩
def rf_comesRound (v1 : Int) (m : mR) : Option (Int × mR) :=
  if (m.2 41) v1 ≤ 0 then
    bnd (whl (rfb_comesRound_13 v1) (0, m)) (fun e37 : mR =>
      rfl_comesRound_39 v1 e37)
  else
    some (0, m)
theorem D_comesRound (w : wX) (m : mR) (c : Nat → Option am_C) (N D : Nat) (hm : Cn m) (v1 : Int) (q1 : R32 v1) : PC w D 285 [.ref 189, .int (i32 v1)] (mhp m c, N) (QS (FR1 c N) (rf_comesRound v1 m)) := by
  refine Pc_of (fun D bb => ?_) D
  unfold rf_comesRound
  show PP bb w D pm_285 (0, [(0, .ref 189), (1, .int (i32 v1))], [], (mhp (mO m [] []) c, N), 0, 0) _
  refine P_gf 4 (.ref 211) rfl rfl rfl rfl rfl rfl ?_
  refine P_ld 5 (.int (i32 v1)) rfl (fun _ => rfl) ?_
  refine P_iald2 6 41 (m.2 41) rfl rfl rfl q1 rfl ?_
  refine P_ifF 11 9 rfl rfl rfl (rE_i (Cn_a hm 41) rfl _) rfl (fun h36 => ?_) (fun h36 => ?_)
  · skip
    refine P_ld 12 (.int (i32 0)) rfl (fun _ => rfl) ?_
    refine P_sto 13 [(2, .int (i32 0)), (0, .ref 189), (1, .int (i32 v1))] rfl (fun _ => rfl) ?_
    refine P_lv (b := [(0, .ref 189), (1, .int (i32 v1)), (2, .int (i32 0))]) rfl rfl ⟨rfl, rfl, rfl, trivial⟩ ?_
    refine P_bnd ?_
    refine P_whl (fun bb Q2 H1 H2 s9 j9 hs9 => dh_comesRound_13 w c N D v1 q1 bb Q2 H1 H2 s9 j9 hs9) bb (fun e37 j q38 => ?_) (0, m) (jk []) ⟨(l32 0 rfl), hm⟩
    have q39 := q38
    show PP bb w D pm_285 (39, [(0, .ref 189), (1, .int (i32 v1)), (2, .int (i32 (j 2)))], [], (mhp (mO e37 [] []) c, N), 0, 0) (QS _ (rfl_comesRound_39 v1 e37))
    exact dg_comesRound_39 w c N D bb v1 q1 e37 q39 (jk [(2, j 2)])
  · skip
    refine P_ld 10 (.int (i32 0)) rfl (fun _ => rfl) ?_
    exact P_re1 rfl (l32 0 rfl) hm
def cs_checkStates_4 (s : Int × Int) : Prop := R32 s.1 ∧ R32 s.2
def cx_checkStates_4 : (Int) → Prop := (fun (e : Int) => R32 e)
def hd_checkStates_4 (c : Nat → Option am_C) (N : Nat) (m : mR) (s : Int × Int) (j : Nat → Int) : ag_St af_T := (4, [(0, .ref 189), (1, .int (i32 s.1)), (2, .int (i32 s.2))], [], (mhp m c, N), 0, 0)
def ex_checkStates_4 (c : Nat → Option am_C) (N : Nat) (m : mR) : (Int) → (Nat → Int) → ag_St af_T := (fun (e : Int) (j : Nat → Int) => ((48, [(0, .ref 189), (1, .int (i32 e)), (2, .int (i32 (j 2)))], [], (mhp m c, N), 0, 0) : ag_St af_T))
def cs_checkStates_61 (s : Int × mR) : Prop := R32 s.1 ∧ Cn s.2
def cx_checkStates_61 : (mR) → Prop := (fun (e : mR) => Cn e)
def hd_checkStates_61 (c : Nat → Option am_C) (N : Nat) (s : Int × mR) (j : Nat → Int) : ag_St af_T := (61, [(0, .ref 189), (1, .int (i32 (j 1))), (2, .int (i32 s.1))], [], (mhp s.2 c, N), 0, 0)
def ex_checkStates_61 (c : Nat → Option am_C) (N : Nat) : (mR) → (Nat → Int) → ag_St af_T := (fun (e : mR) (j : Nat → Int) => ((102, [(0, .ref 189), (1, .int (i32 (j 1))), (2, .int (i32 (j 2)))], [], (mhp e c, N), 0, 0) : ag_St af_T))
def rfl_checkStates_96 (v2 : Int) (m : mR) : Option (Sum (Int × mR) (mR)) :=
  some (.inl (cut (v2 + 1), m))
theorem dg_checkStates_96 (w : wX) (c : Nat → Option am_C) (N D : Nat) (bb : Nat) (v2 : Int) (q2 : R32 v2) (m : mR) (hm : Cn m) (j : Nat → Int) (Q2 : Sum (Int × mR) (mR) → ag_Re af_T → Prop) (H1 : ∀ s j, cs_checkStates_61 s → PP bb w D pm_284 (hd_checkStates_61 c N s j) (Q2 (.inl s))) (H2 : ∀ x j, cx_checkStates_61 x → PP bb w D pm_284 (ex_checkStates_61 c N x j) (Q2 (.inr x))) : PP bb w D pm_284 (96, [(0, .ref 189), (1, .int (i32 (j 1))), (2, .int (i32 v2))], [], (mhp m c, N), 0, 0) (QS Q2 (rfl_checkStates_96 v2 m)) := by
  unfold rfl_checkStates_96
  show PP bb w D pm_284 (96, [(0, .ref 189), (1, .int (i32 (j 1))), (2, .int (i32 v2))], [], (mhp (mO m [] []) c, N), 0, 0) _
  refine P_inc 99 [(2, .int (i32 (cut (v2 + 1)))), (0, .ref 189), (1, .int (i32 (j 1)))] rfl rfl (by decide) rfl rfl ?_
  refine P_goto 61 rfl (fun _ => rfl) ?_
  refine P_some ?_
  refine P_lv (b := [(0, .ref 189), (1, .int (i32 (j 1))), (2, .int (i32 (cut (v2 + 1))))]) rfl rfl ⟨rfl, rfl, rfl, trivial⟩ ?_
  exact H1 (cut (v2 + 1), m) (jk [(1, j 1)]) ⟨cut_r, hm⟩
def rfl_checkStates_81 (v2 : Int) (u0 : Int) (m : mR) : Option (Sum (Int × mR) (mR)) :=
  if u0 = 0 then
    rfl_checkStates_96 v2 m
  else
    bnd (rf_wrong 8 ((m.2 40) v2) m) fun y4 =>
    rfl_checkStates_96 v2 y4.2
theorem dg_checkStates_81 (w : wX) (c : Nat → Option am_C) (N D : Nat) (bb : Nat) (v2 : Int) (u0 : Int) (q2 : R32 v2) (r0 : R32 u0) (m : mR) (hm : Cn m) (j : Nat → Int) (Q2 : Sum (Int × mR) (mR) → ag_Re af_T → Prop) (H1 : ∀ s j, cs_checkStates_61 s → PP bb w D pm_284 (hd_checkStates_61 c N s j) (Q2 (.inl s))) (H2 : ∀ x j, cx_checkStates_61 x → PP bb w D pm_284 (ex_checkStates_61 c N x j) (Q2 (.inr x))) : PP bb w D pm_284 (81, [(0, .ref 189), (1, .int (i32 (j 1))), (2, .int (i32 v2))], [.int (i32 u0)], (mhp m c, N), 0, 0) (QS Q2 (rfl_checkStates_81 v2 u0 m)) := by
  unfold rfl_checkStates_81
  show PP bb w D pm_284 (81, [(0, .ref 189), (1, .int (i32 (j 1))), (2, .int (i32 v2))], [.int (i32 u0)], (mhp (mO m [] []) c, N), 0, 0) _
  refine P_ifF 96 84 rfl rfl rfl r0 rfl (fun h3 => ?_) (fun h3 => ?_)
  · skip
    exact dg_checkStates_96 w c N D bb v2 q2 m hm (jk [(1, j 1)]) Q2 H1 H2
  · skip
    refine P_ld 85 (.ref 189) rfl (fun _ => rfl) ?_
    refine P_ld 87 (.int (i32 8)) rfl (fun _ => rfl) ?_
    refine P_gf 91 (.ref 210) rfl rfl rfl rfl rfl rfl ?_
    refine P_ld 92 (.int (i32 v2)) rfl (fun _ => rfl) ?_
    refine P_iald2 93 40 (m.2 40) rfl rfl rfl q2 rfl ?_
    refine P_ca0 96 222 [.ref 189, .int (i32 8), .int (i32 ((m.2 40) v2))] [] rfl (fun _ => rfl) rfl (D_wrong w m c N D hm 8 ((m.2 40) v2) (l32 8 rfl) (rE_i (Cn_a hm 40) rfl _)) (fun y4 n6 => ?_)
    exact dg_checkStates_96 w c N D bb v2 q2 y4.2 n6 (jk [(1, j 1)]) Q2 H1 H2
def rfb_checkStates_61 (s : Int × mR) : Option (Sum (Int × mR) (mR)) :=
  if s.2.1 24 ≤ s.1 then
    some (.inr s.2)
  else
    if s.2.1 10 = 0 then
      bnd (rf_comesRound s.1 s.2) fun y10 =>
      rfl_checkStates_81 s.1 y10.1 y10.2
    else
      some (.inr s.2)
theorem dh_checkStates_61 (w : wX) (c : Nat → Option am_C) (N D : Nat) (bb : Nat) (Q2 : Sum (Int × mR) (mR) → ag_Re af_T → Prop) (H1 : ∀ s j, cs_checkStates_61 s → PP bb w D pm_284 (hd_checkStates_61 c N s j) (Q2 (.inl s))) (H2 : ∀ x j, cx_checkStates_61 x → PP bb w D pm_284 (ex_checkStates_61 c N x j) (Q2 (.inr x))) (s : Int × mR) (j : Nat → Int) (hs : cs_checkStates_61 s) : PP (bb + 1) w D pm_284 (hd_checkStates_61 c N s j) (QS Q2 (rfb_checkStates_61 s)) := by
  obtain ⟨g2, gm⟩ := hs
  unfold rfb_checkStates_61
  show PP (bb + 1) w D pm_284 (61, [(0, .ref 189), (1, .int (i32 (j 1))), (2, .int (i32 s.1))], [], (mhp (mO s.2 [] []) c, N), 0, 0) _
  refine P1_ld 62 (.int (i32 s.1)) rfl (fun _ => rfl) ?_
  refine P_gf 66 (.int (i32 (s.2.1 24))) rfl rfl rfl rfl rfl rfl ?_
  refine P_icF 102 69 rfl rfl rfl g2 (Cn_i gm 24 rfl) rfl (fun h8 => ?_) (fun h8 => ?_)
  · skip
    refine P_some ?_
    exact H2 s.2 (jk [(1, j 1), (2, s.1)]) gm
  · skip
    refine P_gf 73 (.int (i32 (s.2.1 10))) rfl rfl rfl rfl rfl rfl ?_
    refine P_ifE 102 76 rfl rfl rfl (Cn_i gm 10 rfl) rfl (fun h9 => ?_) (fun h9 => ?_)
    · skip
      refine P_ld 77 (.ref 189) rfl (fun _ => rfl) ?_
      refine P_ld 78 (.int (i32 s.1)) rfl (fun _ => rfl) ?_
      refine P_ca1 81 285 [.ref 189, .int (i32 s.1)] [] rfl (fun _ => rfl) rfl (D_comesRound w s.2 c N D gm s.1 g2) (fun y10 h11 n12 => ?_)
      exact dg_checkStates_81 w c N D bb s.1 y10.1 g2 h11 y10.2 n12 (jk [(1, j 1)]) Q2 H1 H2
    · skip
      refine P_some ?_
      exact H2 s.2 (jk [(1, j 1), (2, s.1)]) gm
def rfl_checkStates_59 (m : mR) : Option (Int × mR) :=
  bnd (whl rfb_checkStates_61 (0, m)) (fun e13 : mR =>
    some (0, e13))
theorem dg_checkStates_59 (w : wX) (c : Nat → Option am_C) (N D : Nat) (bb : Nat) (m : mR) (hm : Cn m) (j : Nat → Int) : PP bb w D pm_284 (59, [(0, .ref 189), (1, .int (i32 (j 1))), (2, .int (i32 (j 2)))], [], (mhp m c, N), 0, 0) (QS (FR0 c N) (rfl_checkStates_59 m)) := by
  unfold rfl_checkStates_59
  show PP bb w D pm_284 (59, [(0, .ref 189), (1, .int (i32 (j 1))), (2, .int (i32 (j 2)))], [], (mhp (mO m [] []) c, N), 0, 0) _
  refine P_ld 60 (.int (i32 0)) rfl (fun _ => rfl) ?_
  refine P_sto 61 [(2, .int (i32 0)), (0, .ref 189), (1, .int (i32 (j 1)))] rfl (fun _ => rfl) ?_
  refine P_lv (b := [(0, .ref 189), (1, .int (i32 (j 1))), (2, .int (i32 0))]) rfl rfl ⟨rfl, rfl, rfl, trivial⟩ ?_
  refine P_bnd ?_
  refine P_whl (fun bb Q2 H1 H2 s9 j9 hs9 => dh_checkStates_61 w c N D bb Q2 H1 H2 s9 j9 hs9) bb (fun e13 j q14 => ?_) (0, m) (jk [(1, j 1)]) ⟨(l32 0 rfl), hm⟩
  have q15 := q14
  show PP bb w D pm_284 (102, [(0, .ref 189), (1, .int (i32 (j 1))), (2, .int (i32 (j 2)))], [], (mhp (mO e13 [] []) c, N), 0, 0) (QS _ (some (0, e13)))
  exact P_re0 rfl rfl q15
def rfl_checkStates_48 (v1 : Int) (m : mR) : Option (Int × mR) :=
  if v1 < 0 then
    rfl_checkStates_59 m
  else
    bnd (rf_wrong 6 v1 m) fun y17 =>
    rfl_checkStates_59 y17.2
theorem dg_checkStates_48 (w : wX) (c : Nat → Option am_C) (N D : Nat) (bb : Nat) (v1 : Int) (q1 : R32 v1) (m : mR) (hm : Cn m) (j : Nat → Int) : PP bb w D pm_284 (48, [(0, .ref 189), (1, .int (i32 v1)), (2, .int (i32 (j 2)))], [], (mhp m c, N), 0, 0) (QS (FR0 c N) (rfl_checkStates_48 v1 m)) := by
  unfold rfl_checkStates_48
  show PP bb w D pm_284 (48, [(0, .ref 189), (1, .int (i32 v1)), (2, .int (i32 (j 2)))], [], (mhp (mO m [] []) c, N), 0, 0) _
  refine P_ld 49 (.int (i32 v1)) rfl (fun _ => rfl) ?_
  refine P_ifF 59 52 rfl rfl rfl q1 rfl (fun h16 => ?_) (fun h16 => ?_)
  · skip
    exact dg_checkStates_59 w c N D bb m hm (jk [(1, v1), (2, j 2)])
  · skip
    refine P_ld 53 (.ref 189) rfl (fun _ => rfl) ?_
    refine P_ld 55 (.int (i32 6)) rfl (fun _ => rfl) ?_
    refine P_ld 56 (.int (i32 v1)) rfl (fun _ => rfl) ?_
    refine P_ca0 59 222 [.ref 189, .int (i32 6), .int (i32 v1)] [] rfl (fun _ => rfl) rfl (D_wrong w m c N D hm 6 v1 (l32 6 rfl) q1) (fun y17 n19 => ?_)
    exact dg_checkStates_59 w c N D bb y17.2 n19 (jk [(1, v1), (2, j 2)])
def rfl_checkStates_42 (v1 : Int) (v2 : Int) (m : mR) : Option (Sum (Int × Int) (Int)) :=
  some (.inl (v1, cut (v2 + 1)))
theorem dg_checkStates_42 (w : wX) (c : Nat → Option am_C) (N D : Nat) (bb : Nat) (v1 : Int) (v2 : Int) (q1 : R32 v1) (q2 : R32 v2) (m : mR) (hm : Cn m) (j : Nat → Int) (Q2 : Sum (Int × Int) (Int) → ag_Re af_T → Prop) (H1 : ∀ s j, cs_checkStates_4 s → PP bb w D pm_284 (hd_checkStates_4 c N m s j) (Q2 (.inl s))) (H2 : ∀ x j, cx_checkStates_4 x → PP bb w D pm_284 (ex_checkStates_4 c N m x j) (Q2 (.inr x))) : PP bb w D pm_284 (42, [(0, .ref 189), (1, .int (i32 v1)), (2, .int (i32 v2))], [], (mhp m c, N), 0, 0) (QS Q2 (rfl_checkStates_42 v1 v2 m)) := by
  unfold rfl_checkStates_42
  show PP bb w D pm_284 (42, [(0, .ref 189), (1, .int (i32 v1)), (2, .int (i32 v2))], [], (mhp (mO m [] []) c, N), 0, 0) _
  refine P_inc 45 [(2, .int (i32 (cut (v2 + 1)))), (0, .ref 189), (1, .int (i32 v1))] rfl rfl (by decide) rfl rfl ?_
  refine P_goto 4 rfl (fun _ => rfl) ?_
  refine P_some ?_
  refine P_lv (b := [(0, .ref 189), (1, .int (i32 v1)), (2, .int (i32 (cut (v2 + 1))))]) rfl rfl ⟨rfl, rfl, rfl, trivial⟩ ?_
  exact H1 (v1, cut (v2 + 1)) (jk []) ⟨q1, cut_r⟩
def rfl_checkStates_35 (v2 : Int) (m : mR) : Option (Sum (Int × Int) (Int)) :=
  rfl_checkStates_42 ((m.2 37) v2) v2 m
theorem dg_checkStates_35 (w : wX) (c : Nat → Option am_C) (N D : Nat) (bb : Nat) (v2 : Int) (q2 : R32 v2) (m : mR) (hm : Cn m) (j : Nat → Int) (Q2 : Sum (Int × Int) (Int) → ag_Re af_T → Prop) (H1 : ∀ s j, cs_checkStates_4 s → PP bb w D pm_284 (hd_checkStates_4 c N m s j) (Q2 (.inl s))) (H2 : ∀ x j, cx_checkStates_4 x → PP bb w D pm_284 (ex_checkStates_4 c N m x j) (Q2 (.inr x))) : PP bb w D pm_284 (35, [(0, .ref 189), (1, .int (i32 (j 1))), (2, .int (i32 v2))], [], (mhp m c, N), 0, 0) (QS Q2 (rfl_checkStates_35 v2 m)) := by
  unfold rfl_checkStates_35
  show PP bb w D pm_284 (35, [(0, .ref 189), (1, .int (i32 (j 1))), (2, .int (i32 v2))], [], (mhp (mO m [] []) c, N), 0, 0) _
  refine P_gf 39 (.ref 207) rfl rfl rfl rfl rfl rfl ?_
  refine P_ld 40 (.int (i32 v2)) rfl (fun _ => rfl) ?_
  refine P_iald2 41 37 (m.2 37) rfl rfl rfl q2 rfl ?_
  refine P_sto 42 [(1, .int (i32 ((m.2 37) v2))), (0, .ref 189), (2, .int (i32 v2))] rfl (fun _ => rfl) ?_
  refine P_lv (b := [(0, .ref 189), (1, .int (i32 ((m.2 37) v2))), (2, .int (i32 v2))]) rfl rfl ⟨rfl, rfl, rfl, trivial⟩ ?_
  exact dg_checkStates_42 w c N D bb ((m.2 37) v2) v2 (rE_i (Cn_a hm 37) rfl _) q2 m hm (jk []) Q2 H1 H2
def rfb_checkStates_4 (m : mR) (s : Int × Int) : Option (Sum (Int × Int) (Int)) :=
  if m.1 23 ≤ s.2 then
    some (.inr s.1)
  else
    if (0 : Int) ≤ (m.2 38) s.2 then
      rfl_checkStates_42 s.1 s.2 m
    else
      if s.1 < 0 then
        rfl_checkStates_35 s.2 m
      else
        if s.1 ≤ (m.2 37) s.2 then
          rfl_checkStates_42 s.1 s.2 m
        else
          rfl_checkStates_35 s.2 m
theorem dh_checkStates_4 (w : wX) (c : Nat → Option am_C) (N D : Nat) (m : mR) (hm : Cn m) (bb : Nat) (Q2 : Sum (Int × Int) (Int) → ag_Re af_T → Prop) (H1 : ∀ s j, cs_checkStates_4 s → PP bb w D pm_284 (hd_checkStates_4 c N m s j) (Q2 (.inl s))) (H2 : ∀ x j, cx_checkStates_4 x → PP bb w D pm_284 (ex_checkStates_4 c N m x j) (Q2 (.inr x))) (s : Int × Int) (j : Nat → Int) (hs : cs_checkStates_4 s) : PP (bb + 1) w D pm_284 (hd_checkStates_4 c N m s j) (QS Q2 (rfb_checkStates_4 m s)) := by
  obtain ⟨g1, g2⟩ := hs
  unfold rfb_checkStates_4
  show PP (bb + 1) w D pm_284 (4, [(0, .ref 189), (1, .int (i32 s.1)), (2, .int (i32 s.2))], [], (mhp (mO m [] []) c, N), 0, 0) _
  refine P1_ld 5 (.int (i32 s.2)) rfl (fun _ => rfl) ?_
  refine P_gf 9 (.int (i32 (m.1 23))) rfl rfl rfl rfl rfl rfl ?_
  refine P_icF 48 12 rfl rfl rfl g2 (Cn_i hm 23 rfl) rfl (fun h21 => ?_) (fun h21 => ?_)
  · skip
    refine P_some ?_
    exact H2 s.1 (jk [(2, s.2)]) g1
  · skip
    refine P_gf 16 (.ref 208) rfl rfl rfl rfl rfl rfl ?_
    refine P_ld 17 (.int (i32 s.2)) rfl (fun _ => rfl) ?_
    refine P_iald2 18 38 (m.2 38) rfl rfl rfl g2 rfl ?_
    refine P_ifF 42 21 rfl rfl rfl (rE_i (Cn_a hm 38) rfl _) rfl (fun h22 => ?_) (fun h22 => ?_)
    · skip
      exact dg_checkStates_42 w c N D bb s.1 s.2 g1 g2 m hm (jk []) Q2 H1 H2
    · skip
      refine P_ld 22 (.int (i32 s.1)) rfl (fun _ => rfl) ?_
      refine P_ifF 35 25 rfl rfl rfl g1 rfl (fun h23 => ?_) (fun h23 => ?_)
      · skip
        exact dg_checkStates_35 w c N D bb s.2 g2 m hm (jk [(1, s.1)]) Q2 H1 H2
      · skip
        refine P_gf 29 (.ref 207) rfl rfl rfl rfl rfl rfl ?_
        refine P_ld 30 (.int (i32 s.2)) rfl (fun _ => rfl) ?_
        refine P_iald2 31 37 (m.2 37) rfl rfl rfl g2 rfl ?_
        refine P_ld 32 (.int (i32 s.1)) rfl (fun _ => rfl) ?_
        refine P_icF 42 35 rfl rfl rfl (rE_i (Cn_a hm 37) rfl _) g1 rfl (fun h24 => ?_) (fun h24 => ?_)
        · skip
          exact dg_checkStates_42 w c N D bb s.1 s.2 g1 g2 m hm (jk []) Q2 H1 H2
        · skip
          exact dg_checkStates_35 w c N D bb s.2 g2 m hm (jk [(1, s.1)]) Q2 H1 H2
def rf_checkStates (m : mR) : Option (Int × mR) :=
  bnd (whl (rfb_checkStates_4 m) ((-1), 0)) (fun e25 : Int =>
    rfl_checkStates_48 e25 m)
theorem D_checkStates (w : wX) (m : mR) (c : Nat → Option am_C) (N D : Nat) (hm : Cn m) : PC w D 284 [.ref 189] (mhp m c, N) (QS (FR0 c N) (rf_checkStates m)) := by
  refine Pc_of (fun D bb => ?_) D
  unfold rf_checkStates
  show PP bb w D pm_284 (0, [(0, .ref 189)], [], (mhp (mO m [] []) c, N), 0, 0) _
  refine P_ld 1 (.int (i32 (-1))) rfl (fun _ => rfl) ?_
  refine P_sto 2 [(1, .int (i32 (-1))), (0, .ref 189)] rfl (fun _ => rfl) ?_
  refine P_ld 3 (.int (i32 0)) rfl (fun _ => rfl) ?_
  refine P_sto 4 [(2, .int (i32 0)), (1, .int (i32 (-1))), (0, .ref 189)] rfl (fun _ => rfl) ?_
  refine P_lv (b := [(0, .ref 189), (1, .int (i32 (-1))), (2, .int (i32 0))]) rfl rfl ⟨rfl, rfl, rfl, trivial⟩ ?_
  refine P_bnd ?_
  refine P_whl (fun bb Q2 H1 H2 s9 j9 hs9 => dh_checkStates_4 w c N D m hm bb Q2 H1 H2 s9 j9 hs9) bb (fun e25 j q26 => ?_) ((-1), 0) (jk []) ⟨(l32 (-1) rfl), (l32 0 rfl)⟩
  have q27 := q26
  show PP bb w D pm_284 (48, [(0, .ref 189), (1, .int (i32 e25)), (2, .int (i32 (j 2)))], [], (mhp (mO m [] []) c, N), 0, 0) (QS _ (rfl_checkStates_48 e25 m))
  exact dg_checkStates_48 w c N D bb e25 q27 m hm (jk [(2, j 2)])
end X26M
