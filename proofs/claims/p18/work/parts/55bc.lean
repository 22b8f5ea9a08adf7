noncomputable section X55BC
def cs_entryGoes_24 (s : Int × mR) : Prop := R32 s.1 ∧ Cn s.2
def cx_entryGoes_24 : (mR) → Prop := (fun (e : mR) => Cn e)
def hd_entryGoes_24 (c : Nat → Option am_C) (N : Nat) (v1 : Int) (s : Int × mR) (j : Nat → Int) : ag_St af_T := (24, [(0, .ref 189), (1, .int (i32 v1)), (2, .int (i32 (j 2))), (3, .int (i32 s.1)), (4, .int (i32 (j 4))), (5, .int (i32 (j 5)))], [], (mhp s.2 c, N), 0, 0)
def ex_entryGoes_24 (c : Nat → Option am_C) (N : Nat) (v1 : Int) : (mR) → (Nat → Int) → ag_St af_T := (fun (e : mR) (j : Nat → Int) => ((151, [(0, .ref 189), (1, .int (i32 (j 1))), (2, .int (i32 (j 2))), (3, .int (i32 (j 3))), (4, .int (i32 (j 4))), (5, .int (i32 (j 5)))], [], (mhp e c, N), 0, 0) : ag_St af_T))
def cs_entryGoes_80 (s : Int × mR) : Prop := R32 s.1 ∧ Cn s.2
def cx_entryGoes_80 : (mR) → Prop := (fun (e : mR) => Cn e)
def hd_entryGoes_80 (c : Nat → Option am_C) (N : Nat) (v1 : Int) (v3 : Int) (v4 : Int) (s : Int × mR) (j : Nat → Int) : ag_St af_T := (80, [(0, .ref 189), (1, .int (i32 v1)), (2, .int (i32 (j 2))), (3, .int (i32 v3)), (4, .int (i32 v4)), (5, .int (i32 s.1))], [], (mhp s.2 c, N), 0, 0)
def ex_entryGoes_80 (c : Nat → Option am_C) (N : Nat) (v1 : Int) (v3 : Int) (v4 : Int) : (mR) → (Nat → Int) → ag_St af_T := (fun (e : mR) (j : Nat → Int) => ((145, [(0, .ref 189), (1, .int (i32 v1)), (2, .int (i32 (j 2))), (3, .int (i32 v3)), (4, .int (i32 (j 4))), (5, .int (i32 (j 5)))], [], (mhp e c, N), 0, 0) : ag_St af_T))
def rfl_entryGoes_145 (v1 : Int) (v3 : Int) (m : mR) : Option (Sum (Int × mR) (mR)) :=
  some (.inl (cut (v3 + 1), m))
theorem dg_entryGoes_145 (w : wX) (c : Nat → Option am_C) (N D : Nat) (bb : Nat) (v1 : Int) (v3 : Int) (q1 : R32 v1) (q3 : R32 v3) (m : mR) (hm : Cn m) (j : Nat → Int) (Q2 : Sum (Int × mR) (mR) → ag_Re af_T → Prop) (H1 : ∀ s j, cs_entryGoes_24 s → PP bb w D pm_324 (hd_entryGoes_24 c N v1 s j) (Q2 (.inl s))) (H2 : ∀ x j, cx_entryGoes_24 x → PP bb w D pm_324 (ex_entryGoes_24 c N v1 x j) (Q2 (.inr x))) : PP bb w D pm_324 (145, [(0, .ref 189), (1, .int (i32 v1)), (2, .int (i32 (j 2))), (3, .int (i32 v3)), (4, .int (i32 (j 4))), (5, .int (i32 (j 5)))], [], (mhp m c, N), 0, 0) (QS Q2 (rfl_entryGoes_145 v1 v3 m)) := by
  unfold rfl_entryGoes_145
  show PP bb w D pm_324 (145, [(0, .ref 189), (1, .int (i32 v1)), (2, .int (i32 (j 2))), (3, .int (i32 v3)), (4, .int (i32 (j 4))), (5, .int (i32 (j 5)))], [], (mhp (mO m [] []) c, N), 0, 0) _
  refine P_inc 148 [(3, .int (i32 (cut (v3 + 1)))), (0, .ref 189), (1, .int (i32 v1)), (2, .int (i32 (j 2))), (4, .int (i32 (j 4))), (5, .int (i32 (j 5)))] rfl rfl (by decide) rfl rfl ?_
  refine P_goto 24 rfl (fun _ => rfl) ?_
  refine P_some ?_
  refine P_lv (b := [(0, .ref 189), (1, .int (i32 v1)), (2, .int (i32 (j 2))), (3, .int (i32 (cut (v3 + 1)))), (4, .int (i32 (j 4))), (5, .int (i32 (j 5)))]) rfl rfl ⟨rfl, rfl, rfl, rfl, rfl, rfl, trivial⟩ ?_
  exact H1 (cut (v3 + 1), m) (jk [(2, j 2), (4, j 4), (5, j 5)]) ⟨cut_r, hm⟩
def rfb_entryGoes_80 (v1 : Int) (v3 : Int) (v4 : Int) (s : Int × mR) : Option (Sum (Int × mR) (mR)) :=
  if cut ((cut (4 * v4)) + 4) ≤ s.1 then
    some (.inr s.2)
  else
    some (.inl (cut (s.1 + 1), (mO s.2 [] [(142, upI (s.2.2 142) s.1 ((s.2.2 142) (cut (s.1 + 4)))), (143, upI (s.2.2 143) s.1 ((s.2.2 143) (cut (s.1 + 4)))), (144, upI (s.2.2 144) s.1 ((s.2.2 144) (cut (s.1 + 4))))])))
theorem dh_entryGoes_80 (w : wX) (c : Nat → Option am_C) (N D : Nat) (v1 : Int) (v3 : Int) (v4 : Int) (q1 : R32 v1) (q3 : R32 v3) (q4 : R32 v4) (bb : Nat) (Q2 : Sum (Int × mR) (mR) → ag_Re af_T → Prop) (H1 : ∀ s j, cs_entryGoes_80 s → PP bb w D pm_324 (hd_entryGoes_80 c N v1 v3 v4 s j) (Q2 (.inl s))) (H2 : ∀ x j, cx_entryGoes_80 x → PP bb w D pm_324 (ex_entryGoes_80 c N v1 v3 v4 x j) (Q2 (.inr x))) (s : Int × mR) (j : Nat → Int) (hs : cs_entryGoes_80 s) : PP (bb + 1) w D pm_324 (hd_entryGoes_80 c N v1 v3 v4 s j) (QS Q2 (rfb_entryGoes_80 v1 v3 v4 s)) := by
  obtain ⟨g5, gm⟩ := hs
  unfold rfb_entryGoes_80
  show PP (bb + 1) w D pm_324 (80, [(0, .ref 189), (1, .int (i32 v1)), (2, .int (i32 (j 2))), (3, .int (i32 v3)), (4, .int (i32 v4)), (5, .int (i32 s.1))], [], (mhp (mO s.2 [] []) c, N), 0, 0) _
  refine P1_ld 82 (.int (i32 s.1)) rfl (fun _ => rfl) ?_
  refine P_ld 83 (.int (i32 4)) rfl (fun _ => rfl) ?_
  refine P_ld 85 (.int (i32 v4)) rfl (fun _ => rfl) ?_
  refine P_op 86 (cut (4 * v4)) _ rfl (fun _ => rfl) o_mul ?_
  refine P_ld 87 (.int (i32 4)) rfl (fun _ => rfl) ?_
  refine P_op 88 (cut ((cut (4 * v4)) + 4)) _ rfl (fun _ => rfl) o_add ?_
  refine P_icF 145 91 rfl rfl rfl g5 cut_r rfl (fun h4 => ?_) (fun h4 => ?_)
  · skip
    refine P_some ?_
    exact H2 s.2 (jk [(2, j 2), (4, v4), (5, s.1)]) gm
  · skip
    refine P_gf 95 (.ref 296) rfl rfl rfl rfl rfl rfl ?_
    refine P_ld 97 (.int (i32 s.1)) rfl (fun _ => rfl) ?_
    refine P_gf 101 (.ref 296) rfl rfl rfl rfl rfl rfl ?_
    refine P_ld 103 (.int (i32 s.1)) rfl (fun _ => rfl) ?_
    refine P_ld 104 (.int (i32 4)) rfl (fun _ => rfl) ?_
    refine P_op 105 (cut (s.1 + 4)) _ rfl (fun _ => rfl) o_add ?_
    refine P_lald2 106 142 (s.2.2 142) rfl rfl rfl cut_r rfl ?_
    refine P_last2 (a' := [(142, upI (s.2.2 142) s.1 ((s.2.2 142) (cut (s.1 + 4))))]) 107 142 (s.2.2 142) rfl rfl rfl g5 rfl rfl ?_
    refine P_gf 111 (.ref 297) rfl rfl rfl rfl rfl rfl ?_
    refine P_ld 113 (.int (i32 s.1)) rfl (fun _ => rfl) ?_
    refine P_gf 117 (.ref 297) rfl rfl rfl rfl rfl rfl ?_
    refine P_ld 119 (.int (i32 s.1)) rfl (fun _ => rfl) ?_
    refine P_ld 120 (.int (i32 4)) rfl (fun _ => rfl) ?_
    refine P_op 121 (cut (s.1 + 4)) _ rfl (fun _ => rfl) o_add ?_
    refine P_lald2 122 143 (s.2.2 143) rfl rfl rfl cut_r rfl ?_
    refine P_last2 (a' := [(142, upI (s.2.2 142) s.1 ((s.2.2 142) (cut (s.1 + 4)))), (143, upI (s.2.2 143) s.1 ((s.2.2 143) (cut (s.1 + 4))))]) 123 143 (s.2.2 143) rfl rfl rfl g5 rfl rfl ?_
    refine P_gf 127 (.ref 298) rfl rfl rfl rfl rfl rfl ?_
    refine P_ld 129 (.int (i32 s.1)) rfl (fun _ => rfl) ?_
    refine P_gf 133 (.ref 298) rfl rfl rfl rfl rfl rfl ?_
    refine P_ld 135 (.int (i32 s.1)) rfl (fun _ => rfl) ?_
    refine P_ld 136 (.int (i32 4)) rfl (fun _ => rfl) ?_
    refine P_op 137 (cut (s.1 + 4)) _ rfl (fun _ => rfl) o_add ?_
    refine P_lald2 138 144 (s.2.2 144) rfl rfl rfl cut_r rfl ?_
    refine P_last2 (a' := [(142, upI (s.2.2 142) s.1 ((s.2.2 142) (cut (s.1 + 4)))), (143, upI (s.2.2 143) s.1 ((s.2.2 143) (cut (s.1 + 4)))), (144, upI (s.2.2 144) s.1 ((s.2.2 144) (cut (s.1 + 4))))]) 139 144 (s.2.2 144) rfl rfl rfl g5 rfl rfl ?_
    refine P_inc 142 [(5, .int (i32 (cut (s.1 + 1)))), (0, .ref 189), (1, .int (i32 v1)), (2, .int (i32 (j 2))), (3, .int (i32 v3)), (4, .int (i32 v4))] rfl rfl (by decide) rfl rfl ?_
    refine P_goto 80 rfl (fun _ => rfl) ?_
    refine P_some ?_
    refine P_lv (b := [(0, .ref 189), (1, .int (i32 v1)), (2, .int (i32 (j 2))), (3, .int (i32 v3)), (4, .int (i32 v4)), (5, .int (i32 (cut (s.1 + 1))))]) rfl rfl ⟨rfl, rfl, rfl, rfl, rfl, rfl, trivial⟩ ?_
    exact H1 (cut (s.1 + 1), (mO s.2 [] [(142, upI (s.2.2 142) s.1 ((s.2.2 142) (cut (s.1 + 4)))), (143, upI (s.2.2 143) s.1 ((s.2.2 143) (cut (s.1 + 4)))), (144, upI (s.2.2 144) s.1 ((s.2.2 144) (cut (s.1 + 4))))])) (jk [(2, j 2)]) ⟨cut_r, (Cn_mO gm trivial ⟨(rE_ul (Cn_a gm 142) rfl (rE_l (Cn_a gm 142) rfl _)), (rE_ul (Cn_a gm 143) rfl (rE_l (Cn_a gm 143) rfl _)), (rE_ul (Cn_a gm 144) rfl (rE_l (Cn_a gm 144) rfl _)), trivial⟩)⟩
def rfb_entryGoes_24 (v1 : Int) (s : Int × mR) : Option (Sum (Int × mR) (mR)) :=
  if (s.2.2 139) v1 ≤ s.1 then
    some (.inr s.2)
  else
    bnd (rf_slot v1 s.1 s.2) fun y7 =>
    bnd (whl (rfb_entryGoes_80 v1 s.1 y7) (cut (4 * y7), (mO s.2 [] [(140, upI (s.2.2 140) y7 ((s.2.2 140) (cut (y7 + 1)))), (141, upI (s.2.2 141) y7 ((s.2.2 141) (cut (y7 + 1))))]))) (fun e9 : mR =>
      rfl_entryGoes_145 v1 s.1 e9)
theorem dh_entryGoes_24 (w : wX) (c : Nat → Option am_C) (N D : Nat) (v1 : Int) (q1 : R32 v1) (bb : Nat) (Q2 : Sum (Int × mR) (mR) → ag_Re af_T → Prop) (H1 : ∀ s j, cs_entryGoes_24 s → PP bb w D pm_324 (hd_entryGoes_24 c N v1 s j) (Q2 (.inl s))) (H2 : ∀ x j, cx_entryGoes_24 x → PP bb w D pm_324 (ex_entryGoes_24 c N v1 x j) (Q2 (.inr x))) (s : Int × mR) (j : Nat → Int) (hs : cs_entryGoes_24 s) : PP (bb + 1) w D pm_324 (hd_entryGoes_24 c N v1 s j) (QS Q2 (rfb_entryGoes_24 v1 s)) := by
  obtain ⟨g3, gm⟩ := hs
  unfold rfb_entryGoes_24
  show PP (bb + 1) w D pm_324 (24, [(0, .ref 189), (1, .int (i32 v1)), (2, .int (i32 (j 2))), (3, .int (i32 s.1)), (4, .int (i32 (j 4))), (5, .int (i32 (j 5)))], [], (mhp (mO s.2 [] []) c, N), 0, 0) _
  refine P1_ld 25 (.int (i32 s.1)) rfl (fun _ => rfl) ?_
  refine P_gf 29 (.ref 293) rfl rfl rfl rfl rfl rfl ?_
  refine P_ld 30 (.int (i32 v1)) rfl (fun _ => rfl) ?_
  refine P_iald2 31 139 (s.2.2 139) rfl rfl rfl q1 rfl ?_
  refine P_icF 151 34 rfl rfl rfl g3 (rE_i (Cn_a gm 139) rfl _) rfl (fun h6 => ?_) (fun h6 => ?_)
  · skip
    refine P_some ?_
    exact H2 s.2 (jk [(1, v1), (2, j 2), (3, s.1), (4, j 4), (5, j 5)]) gm
  · skip
    refine P_ld 35 (.ref 189) rfl (fun _ => rfl) ?_
    refine P_ld 36 (.int (i32 v1)) rfl (fun _ => rfl) ?_
    refine P_ld 37 (.int (i32 s.1)) rfl (fun _ => rfl) ?_
    refine P_cp1 40 319 [.ref 189, .int (i32 v1), .int (i32 s.1)] [] rfl (fun _ => rfl) rfl (D_slot w s.2 c N D gm v1 s.1 q1 g3) (fun y7 h8 => ?_)
    refine P_sto 42 [(4, .int (i32 y7)), (0, .ref 189), (1, .int (i32 v1)), (2, .int (i32 (j 2))), (3, .int (i32 s.1)), (5, .int (i32 (j 5)))] rfl (fun _ => rfl) ?_
    refine P_gf 46 (.ref 294) rfl rfl rfl rfl rfl rfl ?_
    refine P_ld 48 (.int (i32 y7)) rfl (fun _ => rfl) ?_
    refine P_gf 52 (.ref 294) rfl rfl rfl rfl rfl rfl ?_
    refine P_ld 54 (.int (i32 y7)) rfl (fun _ => rfl) ?_
    refine P_ld 55 (.int (i32 1)) rfl (fun _ => rfl) ?_
    refine P_op 56 (cut (y7 + 1)) _ rfl (fun _ => rfl) o_add ?_
    refine P_iald2 57 140 (s.2.2 140) rfl rfl rfl cut_r rfl ?_
    refine P_iast2 (a' := [(140, upI (s.2.2 140) y7 ((s.2.2 140) (cut (y7 + 1))))]) 58 140 (s.2.2 140) rfl rfl rfl h8 rfl rfl ?_
    refine P_gf 62 (.ref 295) rfl rfl rfl rfl rfl rfl ?_
    refine P_ld 64 (.int (i32 y7)) rfl (fun _ => rfl) ?_
    refine P_gf 68 (.ref 295) rfl rfl rfl rfl rfl rfl ?_
    refine P_ld 70 (.int (i32 y7)) rfl (fun _ => rfl) ?_
    refine P_ld 71 (.int (i32 1)) rfl (fun _ => rfl) ?_
    refine P_op 72 (cut (y7 + 1)) _ rfl (fun _ => rfl) o_add ?_
    refine P_iald2 73 141 (s.2.2 141) rfl rfl rfl cut_r rfl ?_
    refine P_iast2 (a' := [(140, upI (s.2.2 140) y7 ((s.2.2 140) (cut (y7 + 1)))), (141, upI (s.2.2 141) y7 ((s.2.2 141) (cut (y7 + 1))))]) 74 141 (s.2.2 141) rfl rfl rfl h8 rfl rfl ?_
    refine P_ld 75 (.int (i32 4)) rfl (fun _ => rfl) ?_
    refine P_ld 77 (.int (i32 y7)) rfl (fun _ => rfl) ?_
    refine P_op 78 (cut (4 * y7)) _ rfl (fun _ => rfl) o_mul ?_
    refine P_sto 80 [(5, .int (i32 (cut (4 * y7)))), (4, .int (i32 y7)), (0, .ref 189), (1, .int (i32 v1)), (2, .int (i32 (j 2))), (3, .int (i32 s.1))] rfl (fun _ => rfl) ?_
    refine P_lv (b := [(0, .ref 189), (1, .int (i32 v1)), (2, .int (i32 (j 2))), (3, .int (i32 s.1)), (4, .int (i32 y7)), (5, .int (i32 (cut (4 * y7))))]) rfl rfl ⟨rfl, rfl, rfl, rfl, rfl, rfl, trivial⟩ ?_
    refine P_bnd ?_
    refine P_whl (fun bb Q2 H1 H2 s9 j9 hs9 => dh_entryGoes_80 w c N D v1 s.1 y7 q1 g3 h8 bb Q2 H1 H2 s9 j9 hs9) bb (fun e9 j q10 => ?_) (cut (4 * y7), (mO s.2 [] [(140, upI (s.2.2 140) y7 ((s.2.2 140) (cut (y7 + 1)))), (141, upI (s.2.2 141) y7 ((s.2.2 141) (cut (y7 + 1))))])) (jk [(2, j 2)]) ⟨cut_r, (Cn_mO gm trivial ⟨(rE_ui (Cn_a gm 140) rfl (rE_i (Cn_a gm 140) rfl _)), (rE_ui (Cn_a gm 141) rfl (rE_i (Cn_a gm 141) rfl _)), trivial⟩)⟩
    have q11 := q10
    show PP bb w D pm_324 (145, [(0, .ref 189), (1, .int (i32 v1)), (2, .int (i32 (j 2))), (3, .int (i32 s.1)), (4, .int (i32 (j 4))), (5, .int (i32 (j 5)))], [], (mhp (mO e9 [] []) c, N), 0, 0) (QS _ (rfl_entryGoes_145 v1 s.1 e9))
    exact dg_entryGoes_145 w c N D bb v1 s.1 q1 g3 e9 q11 (jk [(2, j 2), (4, j 4), (5, j 5)]) Q2 H1 H2
def rf_entryGoes (v1 : Int) (m : mR) : Option (Int × mR) :=
  bnd (rf_findSame v1 m) fun y12 =>
  if (0 : Int) ≤ y12 then
    bnd (whl (rfb_entryGoes_24 v1) (y12, (mO m [] [(139, upI (m.2 139) v1 (cut (((m.2 139) v1) - 1)))]))) (fun e15 : mR =>
      some (1, e15))
  else
    some (0, m)
theorem D_entryGoes (w : wX) (m : mR) (c : Nat → Option am_C) (N D : Nat) (hm : Cn m) (v1 : Int) (q1 : R32 v1) : PC w D 324 [.ref 189, .int (i32 v1)] (mhp m c, N) (QS (FR1 c N) (rf_entryGoes v1 m)) := by
  refine Pc_of (fun D bb => ?_) D
  unfold rf_entryGoes
  show PP bb w D pm_324 (0, [(0, .ref 189), (1, .int (i32 v1))], [], (mhp (mO m [] []) c, N), 0, 0) _
  refine P_ld 1 (.ref 189) rfl (fun _ => rfl) ?_
  refine P_ld 2 (.int (i32 v1)) rfl (fun _ => rfl) ?_
  refine P_cp1 5 318 [.ref 189, .int (i32 v1)] [] rfl (fun _ => rfl) rfl (D_findSame w m c N D hm v1 q1) (fun y12 h13 => ?_)
  refine P_sto 6 [(2, .int (i32 y12)), (0, .ref 189), (1, .int (i32 v1))] rfl (fun _ => rfl) ?_
  refine P_ld 7 (.int (i32 y12)) rfl (fun _ => rfl) ?_
  refine P_ifF 12 10 rfl rfl rfl h13 rfl (fun h14 => ?_) (fun h14 => ?_)
  · skip
    refine P_gf 16 (.ref 293) rfl rfl rfl rfl rfl rfl ?_
    refine P_ld 17 (.int (i32 v1)) rfl (fun _ => rfl) ?_
    refine P_dup2 18 rfl (fun _ => rfl) ?_
    refine P_iald2 19 139 (m.2 139) rfl rfl rfl q1 rfl ?_
    refine P_ld 20 (.int (i32 1)) rfl (fun _ => rfl) ?_
    refine P_op 21 (cut (((m.2 139) v1) - 1)) _ rfl (fun _ => rfl) o_sub ?_
    refine P_iast2 (a' := [(139, upI (m.2 139) v1 (cut (((m.2 139) v1) - 1)))]) 22 139 (m.2 139) rfl rfl rfl q1 rfl rfl ?_
    refine P_ld 23 (.int (i32 y12)) rfl (fun _ => rfl) ?_
    refine P_sto 24 [(3, .int (i32 y12)), (2, .int (i32 y12)), (0, .ref 189), (1, .int (i32 v1))] rfl (fun _ => rfl) ?_
    refine P_lv (b := [(0, .ref 189), (1, .int (i32 v1)), (2, .int (i32 y12)), (3, .int (i32 y12)), (4, .int (i32 0)), (5, .int (i32 0))]) rfl rfl ⟨rfl, rfl, rfl, rfl, trivial⟩ ?_
    refine P_bnd ?_
    refine P_whl (fun bb Q2 H1 H2 s9 j9 hs9 => dh_entryGoes_24 w c N D v1 q1 bb Q2 H1 H2 s9 j9 hs9) bb (fun e15 j q16 => ?_) (y12, (mO m [] [(139, upI (m.2 139) v1 (cut (((m.2 139) v1) - 1)))])) (jk [(2, y12)]) ⟨h13, (Cn_mO hm trivial ⟨(rE_ui (Cn_a hm 139) rfl cut_r), trivial⟩)⟩
    have q17 := q16
    show PP bb w D pm_324 (151, [(0, .ref 189), (1, .int (i32 (j 1))), (2, .int (i32 (j 2))), (3, .int (i32 (j 3))), (4, .int (i32 (j 4))), (5, .int (i32 (j 5)))], [], (mhp (mO e15 [] []) c, N), 0, 0) (QS _ (some (1, e15)))
    refine P_ld 152 (.int (i32 1)) rfl (fun _ => rfl) ?_
    exact P_re1 rfl (l32 1 rfl) q17
  · skip
    refine P_ld 11 (.int (i32 0)) rfl (fun _ => rfl) ?_
    exact P_re1 rfl (l32 0 rfl) hm
def cs_extract_55 (s : Int × Int × mR) : Prop := R32 s.1 ∧ R32 s.2.1 ∧ Cn s.2.2
def cx_extract_55 : (mR) → Prop := (fun (e : mR) => Cn e)
def hd_extract_55 (c : Nat → Option am_C) (N : Nat) (v1 : Int) (v2 : Int) (s : Int × Int × mR) (j : Nat → Int) : ag_St af_T := (55, [(0, .ref 189), (1, .int (i32 v1)), (2, .int (i32 v2)), (3, .int (i32 s.1)), (4, .int (i32 s.2.1)), (5, .long (i64 (j 5))), (7, .int (i32 (j 7)))], [], (mhp s.2.2 c, N), 0, 0)
def ex_extract_55 (c : Nat → Option am_C) (N : Nat) (v1 : Int) (v2 : Int) : (mR) → (Nat → Int) → ag_St af_T := (fun (e : mR) (j : Nat → Int) => ((145, [(0, .ref 189), (1, .int (i32 v1)), (2, .int (i32 v2)), (3, .int (i32 (j 3))), (4, .int (i32 (j 4))), (5, .long (i64 (j 5))), (7, .int (i32 (j 7)))], [], (mhp e c, N), 0, 0) : ag_St af_T))
def cs_extract_72 (s : Int × Int × Int) : Prop := R32 s.1 ∧ R64 s.2.1 ∧ R32 s.2.2
def cx_extract_72 : (Int × Int) → Prop := (fun (e : Int × Int) => R32 e.1 ∧ R64 e.2)
def hd_extract_72 (c : Nat → Option am_C) (N : Nat) (v1 : Int) (v2 : Int) (v4 : Int) (m : mR) (s : Int × Int × Int) (j : Nat → Int) : ag_St af_T := (72, [(0, .ref 189), (1, .int (i32 v1)), (2, .int (i32 v2)), (3, .int (i32 s.1)), (4, .int (i32 v4)), (5, .long (i64 s.2.1)), (7, .int (i32 s.2.2))], [], (mhp m c, N), 0, 0)
def ex_extract_72 (c : Nat → Option am_C) (N : Nat) (v1 : Int) (v2 : Int) (v4 : Int) (m : mR) : (Int × Int) → (Nat → Int) → ag_St af_T := (fun (e : Int × Int) (j : Nat → Int) => ((125, [(0, .ref 189), (1, .int (i32 v1)), (2, .int (i32 v2)), (3, .int (i32 e.1)), (4, .int (i32 v4)), (5, .long (i64 e.2)), (7, .int (i32 (j 7)))], [], (mhp m c, N), 0, 0) : ag_St af_T))
def rfl_extract_145 (v1 : Int) (v2 : Int) (m : mR) : Option (Int × mR) :=
  some (1, (mO m [(176, cut ((m.1 176) + (((m.2 30) v2).tdiv 8)))] [(175, upI (m.2 175) v1 (nar1 1))]))
theorem dg_extract_145 (w : wX) (c : Nat → Option am_C) (N D : Nat) (bb : Nat) (v1 : Int) (v2 : Int) (q1 : R32 v1) (q2 : R32 v2) (m : mR) (hm : Cn m) (j : Nat → Int) : PP bb w D pm_326 (145, [(0, .ref 189), (1, .int (i32 v1)), (2, .int (i32 v2)), (3, .int (i32 (j 3))), (4, .int (i32 (j 4))), (5, .long (i64 (j 5))), (7, .int (i32 (j 7)))], [], (mhp m c, N), 0, 0) (QS (FR1 c N) (rfl_extract_145 v1 v2 m)) := by
  unfold rfl_extract_145
  show PP bb w D pm_326 (145, [(0, .ref 189), (1, .int (i32 v1)), (2, .int (i32 v2)), (3, .int (i32 (j 3))), (4, .int (i32 (j 4))), (5, .long (i64 (j 5))), (7, .int (i32 (j 7)))], [], (mhp (mO m [] []) c, N), 0, 0) _
  refine P_gf 149 (.ref 324) rfl rfl rfl rfl rfl rfl ?_
  refine P_ld 150 (.int (i32 v1)) rfl (fun _ => rfl) ?_
  refine P_ld 151 (.int (i32 1)) rfl (fun _ => rfl) ?_
  refine P_bast2 (a' := [(175, upI (m.2 175) v1 (nar1 1))]) 152 175 (m.2 175) rfl rfl rfl q1 rfl rfl ?_
  refine P_ld 153 (.ref 189) rfl (fun _ => rfl) ?_
  refine P_ld 154 (.ref 189) rfl (fun _ => rfl) ?_
  refine P_gf1 157 (.int (i32 (m.1 176))) rfl rfl rfl rfl ?_
  refine P_gf 161 (.ref 200) rfl rfl rfl rfl rfl rfl ?_
  refine P_ld 162 (.int (i32 v2)) rfl (fun _ => rfl) ?_
  refine P_iald2 163 30 (m.2 30) rfl rfl rfl q2 rfl ?_
  refine P_ld 165 (.int (i32 8)) rfl (fun _ => rfl) ?_
  refine P_div 166 rfl rfl (rE_i (Cn_a hm 30) rfl _) (by decide) (by decide) ?_
  refine P_op 167 (cut ((m.1 176) + (((m.2 30) v2).tdiv 8))) _ rfl (fun _ => rfl) o_add ?_
  refine P_pf (l' := [(176, cut ((m.1 176) + (((m.2 30) v2).tdiv 8)))]) 170 (cut ((m.1 176) + (((m.2 30) v2).tdiv 8))) rfl rfl rfl rfl rfl rfl ?_
  refine P_ld 171 (.int (i32 1)) rfl (fun _ => rfl) ?_
  exact P_re1 rfl (l32 1 rfl) (Cn_mO hm ⟨(rV_i rfl cut_r), trivial⟩ ⟨(rE_ui (Cn_a hm 175) rfl t32_r), trivial⟩)
def rfl_extract_125 (v1 : Int) (v2 : Int) (v3 : Int) (v4 : Int) (v5 : Int) (m : mR) : Option (Sum (Int × Int × mR) (mR)) :=
  some (.inl (v3, cut (v4 + 1), (mO m [] [(171, upI (m.2 171) (cut ((cut (16 * v1)) + v4)) v5)])))
theorem dg_extract_125 (w : wX) (c : Nat → Option am_C) (N D : Nat) (bb : Nat) (v1 : Int) (v2 : Int) (v3 : Int) (v4 : Int) (v5 : Int) (q1 : R32 v1) (q2 : R32 v2) (q3 : R32 v3) (q4 : R32 v4) (q5 : R64 v5) (m : mR) (hm : Cn m) (j : Nat → Int) (Q2 : Sum (Int × Int × mR) (mR) → ag_Re af_T → Prop) (H1 : ∀ s j, cs_extract_55 s → PP bb w D pm_326 (hd_extract_55 c N v1 v2 s j) (Q2 (.inl s))) (H2 : ∀ x j, cx_extract_55 x → PP bb w D pm_326 (ex_extract_55 c N v1 v2 x j) (Q2 (.inr x))) : PP bb w D pm_326 (125, [(0, .ref 189), (1, .int (i32 v1)), (2, .int (i32 v2)), (3, .int (i32 v3)), (4, .int (i32 v4)), (5, .long (i64 v5)), (7, .int (i32 (j 7)))], [], (mhp m c, N), 0, 0) (QS Q2 (rfl_extract_125 v1 v2 v3 v4 v5 m)) := by
  unfold rfl_extract_125
  show PP bb w D pm_326 (125, [(0, .ref 189), (1, .int (i32 v1)), (2, .int (i32 v2)), (3, .int (i32 v3)), (4, .int (i32 v4)), (5, .long (i64 v5)), (7, .int (i32 (j 7)))], [], (mhp (mO m [] []) c, N), 0, 0) _
  refine P_gf 129 (.ref 320) rfl rfl rfl rfl rfl rfl ?_
  refine P_ld 131 (.int (i32 16)) rfl (fun _ => rfl) ?_
  refine P_ld 132 (.int (i32 v1)) rfl (fun _ => rfl) ?_
  refine P_op 133 (cut (16 * v1)) _ rfl (fun _ => rfl) o_mul ?_
  refine P_ld 135 (.int (i32 v4)) rfl (fun _ => rfl) ?_
  refine P_op 136 (cut ((cut (16 * v1)) + v4)) _ rfl (fun _ => rfl) o_add ?_
  refine P_ld 138 (.long (i64 v5)) rfl (fun _ => rfl) ?_
  refine P_last2 (a' := [(171, upI (m.2 171) (cut ((cut (16 * v1)) + v4)) v5)]) 139 171 (m.2 171) rfl rfl rfl cut_r rfl rfl ?_
  refine P_inc 142 [(4, .int (i32 (cut (v4 + 1)))), (0, .ref 189), (1, .int (i32 v1)), (2, .int (i32 v2)), (3, .int (i32 v3)), (5, .long (i64 v5)), (7, .int (i32 (j 7)))] rfl rfl (by decide) rfl rfl ?_
  refine P_goto 55 rfl (fun _ => rfl) ?_
  refine P_some ?_
  refine P_lv (b := [(0, .ref 189), (1, .int (i32 v1)), (2, .int (i32 v2)), (3, .int (i32 v3)), (4, .int (i32 (cut (v4 + 1)))), (5, .long (i64 v5)), (7, .int (i32 (j 7)))]) rfl rfl ⟨rfl, rfl, rfl, rfl, rfl, rfl, rfl, trivial⟩ ?_
  exact H1 (v3, cut (v4 + 1), (mO m [] [(171, upI (m.2 171) (cut ((cut (16 * v1)) + v4)) v5)])) (jk [(5, v5), (7, j 7)]) ⟨q3, cut_r, (Cn_mO hm trivial ⟨(rE_ul (Cn_a hm 171) rfl q5), trivial⟩)⟩
def rfb_extract_72 (v1 : Int) (v2 : Int) (v4 : Int) (m : mR) (s : Int × Int × Int) : Option (Sum (Int × Int × Int) (Int × Int)) :=
  if (m.2 33) (cut ((cut (16 * v2)) + v4)) ≤ s.2.2 then
    some (.inr (s.1, s.2.1))
  else
    some (.inl (cut (s.1 + 1), or64 (shl64 s.2.1 1) (and32 (shr32 ((m.2 159) (s.1.tdiv 8)) (cut (7 - (s.1.tmod 8)))) 1), cut (s.2.2 + 1)))
theorem dh_extract_72 (w : wX) (c : Nat → Option am_C) (N D : Nat) (v1 : Int) (v2 : Int) (v4 : Int) (q1 : R32 v1) (q2 : R32 v2) (q4 : R32 v4) (m : mR) (hm : Cn m) (bb : Nat) (Q2 : Sum (Int × Int × Int) (Int × Int) → ag_Re af_T → Prop) (H1 : ∀ s j, cs_extract_72 s → PP bb w D pm_326 (hd_extract_72 c N v1 v2 v4 m s j) (Q2 (.inl s))) (H2 : ∀ x j, cx_extract_72 x → PP bb w D pm_326 (ex_extract_72 c N v1 v2 v4 m x j) (Q2 (.inr x))) (s : Int × Int × Int) (j : Nat → Int) (hs : cs_extract_72 s) : PP (bb + 1) w D pm_326 (hd_extract_72 c N v1 v2 v4 m s j) (QS Q2 (rfb_extract_72 v1 v2 v4 m s)) := by
  obtain ⟨g3, g5, g7⟩ := hs
  unfold rfb_extract_72
  show PP (bb + 1) w D pm_326 (72, [(0, .ref 189), (1, .int (i32 v1)), (2, .int (i32 v2)), (3, .int (i32 s.1)), (4, .int (i32 v4)), (5, .long (i64 s.2.1)), (7, .int (i32 s.2.2))], [], (mhp (mO m [] []) c, N), 0, 0) _
  refine P1_ld 74 (.int (i32 s.2.2)) rfl (fun _ => rfl) ?_
  refine P_gf 78 (.ref 203) rfl rfl rfl rfl rfl rfl ?_
  refine P_ld 80 (.int (i32 16)) rfl (fun _ => rfl) ?_
  refine P_ld 81 (.int (i32 v2)) rfl (fun _ => rfl) ?_
  refine P_op 82 (cut (16 * v2)) _ rfl (fun _ => rfl) o_mul ?_
  refine P_ld 84 (.int (i32 v4)) rfl (fun _ => rfl) ?_
  refine P_op 85 (cut ((cut (16 * v2)) + v4)) _ rfl (fun _ => rfl) o_add ?_
  refine P_iald2 86 33 (m.2 33) rfl rfl rfl cut_r rfl ?_
  refine P_icF 125 89 rfl rfl rfl g7 (rE_i (Cn_a hm 33) rfl _) rfl (fun h6 => ?_) (fun h6 => ?_)
  · skip
    refine P_some ?_
    exact H2 (s.1, s.2.1) (jk [(7, s.2.2)]) ⟨g3, g5⟩
  · skip
    refine P_ld 91 (.long (i64 s.2.1)) rfl (fun _ => rfl) ?_
    refine P_ld 92 (.int (i32 1)) rfl (fun _ => rfl) ?_
    refine P_opl 93 (shl64 s.2.1 1) _ rfl (fun _ => rfl) (Int64.ofInt_toInt _).symm ?_
    refine P_gf 97 (.ref 308) rfl rfl rfl rfl rfl rfl ?_
    refine P_ld 98 (.int (i32 s.1)) rfl (fun _ => rfl) ?_
    refine P_ld 100 (.int (i32 8)) rfl (fun _ => rfl) ?_
    refine P_div 101 rfl rfl g3 (by decide) (by decide) ?_
    refine P_iald2 102 159 (m.2 159) rfl rfl rfl (tdiv_r g3 (by decide)) rfl ?_
    refine P_ld 104 (.int (i32 7)) rfl (fun _ => rfl) ?_
    refine P_ld 105 (.int (i32 s.1)) rfl (fun _ => rfl) ?_
    refine P_ld 107 (.int (i32 8)) rfl (fun _ => rfl) ?_
    refine P_rem 108 rfl rfl g3 (by decide) (by decide) ?_
    refine P_op 109 (cut (7 - (s.1.tmod 8))) _ rfl (fun _ => rfl) o_sub ?_
    refine P_op 110 (shr32 ((m.2 159) (s.1.tdiv 8)) (cut (7 - (s.1.tmod 8)))) _ rfl (fun _ => rfl) (i32_of _).symm ?_
    refine P_ld 111 (.int (i32 1)) rfl (fun _ => rfl) ?_
    refine P_op 112 (and32 (shr32 ((m.2 159) (s.1.tdiv 8)) (cut (7 - (s.1.tmod 8)))) 1) _ rfl (fun _ => rfl) (i32_of _).symm ?_
    refine P_opl 113 (and32 (shr32 ((m.2 159) (s.1.tdiv 8)) (cut (7 - (s.1.tmod 8)))) 1) _ rfl (fun _ => rfl) (o_i2l t32_r) ?_
    refine P_opl 114 (or64 (shl64 s.2.1 1) (and32 (shr32 ((m.2 159) (s.1.tdiv 8)) (cut (7 - (s.1.tmod 8)))) 1)) _ rfl (fun _ => rfl) (Int64.ofInt_toInt _).symm ?_
    refine P_sto 116 [(5, .long (i64 (or64 (shl64 s.2.1 1) (and32 (shr32 ((m.2 159) (s.1.tdiv 8)) (cut (7 - (s.1.tmod 8)))) 1)))), (0, .ref 189), (1, .int (i32 v1)), (2, .int (i32 v2)), (3, .int (i32 s.1)), (4, .int (i32 v4)), (7, .int (i32 s.2.2))] rfl (fun _ => rfl) ?_
    refine P_inc 119 [(3, .int (i32 (cut (s.1 + 1)))), (5, .long (i64 (or64 (shl64 s.2.1 1) (and32 (shr32 ((m.2 159) (s.1.tdiv 8)) (cut (7 - (s.1.tmod 8)))) 1)))), (0, .ref 189), (1, .int (i32 v1)), (2, .int (i32 v2)), (4, .int (i32 v4)), (7, .int (i32 s.2.2))] rfl rfl (by decide) rfl rfl ?_
    refine P_inc 122 [(7, .int (i32 (cut (s.2.2 + 1)))), (3, .int (i32 (cut (s.1 + 1)))), (5, .long (i64 (or64 (shl64 s.2.1 1) (and32 (shr32 ((m.2 159) (s.1.tdiv 8)) (cut (7 - (s.1.tmod 8)))) 1)))), (0, .ref 189), (1, .int (i32 v1)), (2, .int (i32 v2)), (4, .int (i32 v4))] rfl rfl (by decide) rfl rfl ?_
    refine P_goto 72 rfl (fun _ => rfl) ?_
    refine P_some ?_
    refine P_lv (b := [(0, .ref 189), (1, .int (i32 v1)), (2, .int (i32 v2)), (3, .int (i32 (cut (s.1 + 1)))), (4, .int (i32 v4)), (5, .long (i64 (or64 (shl64 s.2.1 1) (and32 (shr32 ((m.2 159) (s.1.tdiv 8)) (cut (7 - (s.1.tmod 8)))) 1)))), (7, .int (i32 (cut (s.2.2 + 1))))]) rfl rfl ⟨rfl, rfl, rfl, rfl, rfl, rfl, rfl, trivial⟩ ?_
    exact H1 (cut (s.1 + 1), or64 (shl64 s.2.1 1) (and32 (shr32 ((m.2 159) (s.1.tdiv 8)) (cut (7 - (s.1.tmod 8)))) 1), cut (s.2.2 + 1)) (jk []) ⟨cut_r, t64_r, cut_r⟩
def rfb_extract_55 (v1 : Int) (v2 : Int) (s : Int × Int × mR) : Option (Sum (Int × Int × mR) (mR)) :=
  if (s.2.2.2 29) v2 ≤ s.2.1 then
    some (.inr s.2.2)
  else
    bnd (whl (rfb_extract_72 v1 v2 s.2.1 s.2.2) (s.1, 0, 0)) (fun e9 : Int × Int =>
      rfl_extract_125 v1 v2 e9.1 s.2.1 e9.2 s.2.2)
theorem dh_extract_55 (w : wX) (c : Nat → Option am_C) (N D : Nat) (v1 : Int) (v2 : Int) (q1 : R32 v1) (q2 : R32 v2) (bb : Nat) (Q2 : Sum (Int × Int × mR) (mR) → ag_Re af_T → Prop) (H1 : ∀ s j, cs_extract_55 s → PP bb w D pm_326 (hd_extract_55 c N v1 v2 s j) (Q2 (.inl s))) (H2 : ∀ x j, cx_extract_55 x → PP bb w D pm_326 (ex_extract_55 c N v1 v2 x j) (Q2 (.inr x))) (s : Int × Int × mR) (j : Nat → Int) (hs : cs_extract_55 s) : PP (bb + 1) w D pm_326 (hd_extract_55 c N v1 v2 s j) (QS Q2 (rfb_extract_55 v1 v2 s)) := by
  obtain ⟨g3, g4, gm⟩ := hs
  unfold rfb_extract_55
  show PP (bb + 1) w D pm_326 (55, [(0, .ref 189), (1, .int (i32 v1)), (2, .int (i32 v2)), (3, .int (i32 s.1)), (4, .int (i32 s.2.1)), (5, .long (i64 (j 5))), (7, .int (i32 (j 7)))], [], (mhp (mO s.2.2 [] []) c, N), 0, 0) _
  refine P1_ld 57 (.int (i32 s.2.1)) rfl (fun _ => rfl) ?_
  refine P_gf 61 (.ref 199) rfl rfl rfl rfl rfl rfl ?_
  refine P_ld 62 (.int (i32 v2)) rfl (fun _ => rfl) ?_
  refine P_iald2 63 29 (s.2.2.2 29) rfl rfl rfl q2 rfl ?_
  refine P_icF 145 66 rfl rfl rfl g4 (rE_i (Cn_a gm 29) rfl _) rfl (fun h8 => ?_) (fun h8 => ?_)
  · skip
    refine P_some ?_
    exact H2 s.2.2 (jk [(3, s.1), (4, s.2.1), (5, j 5), (7, j 7)]) gm
  · skip
    refine P_ld 67 (.long (i64 0)) rfl (fun _ => rfl) ?_
    refine P_sto 69 [(5, .long (i64 0)), (0, .ref 189), (1, .int (i32 v1)), (2, .int (i32 v2)), (3, .int (i32 s.1)), (4, .int (i32 s.2.1)), (7, .int (i32 (j 7)))] rfl (fun _ => rfl) ?_
    refine P_ld 70 (.int (i32 0)) rfl (fun _ => rfl) ?_
    refine P_sto 72 [(7, .int (i32 0)), (5, .long (i64 0)), (0, .ref 189), (1, .int (i32 v1)), (2, .int (i32 v2)), (3, .int (i32 s.1)), (4, .int (i32 s.2.1))] rfl (fun _ => rfl) ?_
    refine P_lv (b := [(0, .ref 189), (1, .int (i32 v1)), (2, .int (i32 v2)), (3, .int (i32 s.1)), (4, .int (i32 s.2.1)), (5, .long (i64 0)), (7, .int (i32 0))]) rfl rfl ⟨rfl, rfl, rfl, rfl, rfl, rfl, rfl, trivial⟩ ?_
    refine P_bnd ?_
    refine P_whl (fun bb Q2 H1 H2 s9 j9 hs9 => dh_extract_72 w c N D v1 v2 s.2.1 q1 q2 g4 s.2.2 gm bb Q2 H1 H2 s9 j9 hs9) bb (fun e9 j q10 => ?_) (s.1, 0, 0) (jk []) ⟨g3, (l64 0 rfl), (l32 0 rfl)⟩
    obtain ⟨q11, q12⟩ := q10
    show PP bb w D pm_326 (125, [(0, .ref 189), (1, .int (i32 v1)), (2, .int (i32 v2)), (3, .int (i32 e9.1)), (4, .int (i32 s.2.1)), (5, .long (i64 e9.2)), (7, .int (i32 (j 7)))], [], (mhp (mO s.2.2 [] []) c, N), 0, 0) (QS _ (rfl_extract_125 v1 v2 e9.1 s.2.1 e9.2 s.2.2))
    exact dg_extract_125 w c N D bb v1 v2 e9.1 s.2.1 e9.2 q1 q2 q11 g4 q12 s.2.2 gm (jk [(7, j 7)]) Q2 H1 H2
def rf_extract (v1 : Int) (m : mR) : Option (Int × mR) :=
  if (m.2 175) v1 = 0 then
    if cut ((cut (8 * (m.1 176))) + ((m.2 30) ((m.2 34) v1))) ≤ cut (8 * ((m.2 154) 0)) then
      bnd (whl (rfb_extract_55 v1 ((m.2 34) v1)) (cut (8 * (m.1 176)), 0, m)) (fun e15 : mR =>
        rfl_extract_145 v1 ((m.2 34) v1) e15)
    else
      some (0, m)
  else
    some (0, m)
theorem D_extract (w : wX) (m : mR) (c : Nat → Option am_C) (N D : Nat) (hm : Cn m) (v1 : Int) (q1 : R32 v1) : PC w D 326 [.ref 189, .int (i32 v1)] (mhp m c, N) (QS (FR1 c N) (rf_extract v1 m)) := by
  refine Pc_of (fun D bb => ?_) D
  unfold rf_extract
  show PP bb w D pm_326 (0, [(0, .ref 189), (1, .int (i32 v1))], [], (mhp (mO m [] []) c, N), 0, 0) _
  refine P_gf 4 (.ref 204) rfl rfl rfl rfl rfl rfl ?_
  refine P_ld 5 (.int (i32 v1)) rfl (fun _ => rfl) ?_
  refine P_iald2 6 34 (m.2 34) rfl rfl rfl q1 rfl ?_
  refine P_sto 7 [(2, .int (i32 ((m.2 34) v1))), (0, .ref 189), (1, .int (i32 v1))] rfl (fun _ => rfl) ?_
  refine P_gf 11 (.ref 324) rfl rfl rfl rfl rfl rfl ?_
  refine P_ld 12 (.int (i32 v1)) rfl (fun _ => rfl) ?_
  refine P_bald2 13 175 (m.2 175) rfl rfl rfl q1 rfl ?_
  refine P_ifE 42 16 rfl rfl rfl (rE_i (Cn_a hm 175) rfl _) rfl (fun h13 => ?_) (fun h13 => ?_)
  · skip
    refine P_ld 18 (.int (i32 8)) rfl (fun _ => rfl) ?_
    refine P_gf 22 (.int (i32 (m.1 176))) rfl rfl rfl rfl rfl rfl ?_
    refine P_op 23 (cut (8 * (m.1 176))) _ rfl (fun _ => rfl) o_mul ?_
    refine P_gf 27 (.ref 200) rfl rfl rfl rfl rfl rfl ?_
    refine P_ld 28 (.int (i32 ((m.2 34) v1))) rfl (fun _ => rfl) ?_
    refine P_iald2 29 30 (m.2 30) rfl rfl rfl (rE_i (Cn_a hm 34) rfl _) rfl ?_
    refine P_op 30 (cut ((cut (8 * (m.1 176))) + ((m.2 30) ((m.2 34) v1)))) _ rfl (fun _ => rfl) o_add ?_
    refine P_ld 32 (.int (i32 8)) rfl (fun _ => rfl) ?_
    refine P_gf 36 (.ref 303) rfl rfl rfl rfl rfl rfl ?_
    refine P_ld 37 (.int (i32 0)) rfl (fun _ => rfl) ?_
    refine P_iald2 38 154 (m.2 154) rfl rfl rfl (l32 0 rfl) rfl ?_
    refine P_op 39 (cut (8 * ((m.2 154) 0))) _ rfl (fun _ => rfl) o_mul ?_
    refine P_icF 44 42 rfl rfl rfl cut_r cut_r rfl (fun h14 => ?_) (fun h14 => ?_)
    · skip
      refine P_ld 46 (.int (i32 8)) rfl (fun _ => rfl) ?_
      refine P_gf 50 (.int (i32 (m.1 176))) rfl rfl rfl rfl rfl rfl ?_
      refine P_op 51 (cut (8 * (m.1 176))) _ rfl (fun _ => rfl) o_mul ?_
      refine P_sto 52 [(3, .int (i32 (cut (8 * (m.1 176))))), (2, .int (i32 ((m.2 34) v1))), (0, .ref 189), (1, .int (i32 v1))] rfl (fun _ => rfl) ?_
      refine P_ld 53 (.int (i32 0)) rfl (fun _ => rfl) ?_
      refine P_sto 55 [(4, .int (i32 0)), (3, .int (i32 (cut (8 * (m.1 176))))), (2, .int (i32 ((m.2 34) v1))), (0, .ref 189), (1, .int (i32 v1))] rfl (fun _ => rfl) ?_
      refine P_lv (b := [(0, .ref 189), (1, .int (i32 v1)), (2, .int (i32 ((m.2 34) v1))), (3, .int (i32 (cut (8 * (m.1 176))))), (4, .int (i32 0)), (5, .long (i64 0)), (7, .int (i32 0))]) rfl rfl ⟨rfl, rfl, rfl, rfl, rfl, trivial⟩ ?_
      refine P_bnd ?_
      refine P_whl (fun bb Q2 H1 H2 s9 j9 hs9 => dh_extract_55 w c N D v1 ((m.2 34) v1) q1 (rE_i (Cn_a hm 34) rfl _) bb Q2 H1 H2 s9 j9 hs9) bb (fun e15 j q16 => ?_) (cut (8 * (m.1 176)), 0, m) (jk []) ⟨cut_r, (l32 0 rfl), hm⟩
      have q17 := q16
      show PP bb w D pm_326 (145, [(0, .ref 189), (1, .int (i32 v1)), (2, .int (i32 ((m.2 34) v1))), (3, .int (i32 (j 3))), (4, .int (i32 (j 4))), (5, .long (i64 (j 5))), (7, .int (i32 (j 7)))], [], (mhp (mO e15 [] []) c, N), 0, 0) (QS _ (rfl_extract_145 v1 ((m.2 34) v1) e15))
      exact dg_extract_145 w c N D bb v1 ((m.2 34) v1) q1 (rE_i (Cn_a hm 34) rfl _) e15 q17 (jk [(3, j 3), (4, j 4), (5, j 5), (7, j 7)])
    · skip
      refine P_ld 43 (.int (i32 0)) rfl (fun _ => rfl) ?_
      exact P_re1 rfl (l32 0 rfl) hm
  · skip
    refine P_ld 43 (.int (i32 0)) rfl (fun _ => rfl) ?_
    exact P_re1 rfl (l32 0 rfl) hm
def rfl_one_9 (u0 : Int) : Option Int :=
  some u0
theorem dg_one_9 (w : wX) (t : af_T) (D : Nat) (bb : Nat) (u0 : Int) (r0 : R64 u0) (j : Nat → Int) : PP bb w D pm_328 (9, [(0, .int (i32 (j 0)))], [.long (i64 u0)], t, 0, 0) (QS (FP2 t) (rfl_one_9 u0)) := by
  unfold rfl_one_9
  exact P_rp2 rfl rfl r0
def rf_one (v0 : Int) : Option Int :=
  if v0 = 0 then
    rfl_one_9 0
  else
    rfl_one_9 1
theorem D_one (w : wX) (t : af_T) (D : Nat) (v0 : Int) (q0 : R32 v0) : PC w D 328 [.int (i32 v0)] t (QS (FP2 t) (rf_one v0)) := by
  refine Pc_of (fun D bb => ?_) D
  unfold rf_one
  show PP bb w D pm_328 (0, [(0, .int (i32 v0))], [], t, 0, 0) _
  refine P_ld 1 (.int (i32 v0)) rfl (fun _ => rfl) ?_
  refine P_ifF 8 4 rfl rfl rfl q0 rfl (fun h1 => ?_) (fun h1 => ?_)
  · skip
    refine P_ld 9 (.long (i64 0)) rfl (fun _ => rfl) ?_
    exact dg_one_9 w t D bb 0 (l64 0 rfl) (jk [(0, v0)])
  · skip
    refine P_ld 5 (.long (i64 1)) rfl (fun _ => rfl) ?_
    refine P_goto 9 rfl (fun _ => rfl) ?_
    exact dg_one_9 w t D bb 1 (l64 1 rfl) (jk [(0, v0)])
def rfl_below_19 (u0 : Int) : Option Int :=
  some u0
theorem dg_below_19 (w : wX) (t : af_T) (D : Nat) (bb : Nat) (u0 : Int) (r0 : R32 u0) (j : Nat → Int) : PP bb w D pm_330 (19, [(0, .long (i64 (j 0))), (2, .long (i64 (j 2)))], [.int (i32 u0)], t, 0, 0) (QS (FP1 t) (rfl_below_19 u0)) := by
  unfold rfl_below_19
  exact P_rp1 rfl r0
def rf_below (v0 : Int) (v2 : Int) : Option Int :=
  if (0 : Int) ≤ cmp64 (cutl (v0 + (-9223372036854775808))) (cutl (v2 + (-9223372036854775808))) then
    rfl_below_19 0
  else
    rfl_below_19 1
theorem D_below (w : wX) (t : af_T) (D : Nat) (v0 : Int) (v2 : Int) (q0 : R64 v0) (q2 : R64 v2) : PC w D 330 [.long (i64 v0), .long (i64 v2)] t (QS (FP1 t) (rf_below v0 v2)) := by
  refine Pc_of (fun D bb => ?_) D
  unfold rf_below
  show PP bb w D pm_330 (0, [(0, .long (i64 v0)), (2, .long (i64 v2))], [], t, 0, 0) _
  refine P_ld 1 (.long (i64 v0)) rfl (fun _ => rfl) ?_
  refine P_ld 4 (.long (i64 (-9223372036854775808))) rfl (fun _ => rfl) ?_
  refine P_opl 5 (cutl (v0 + (-9223372036854775808))) _ rfl (fun _ => rfl) p_add ?_
  refine P_ld 6 (.long (i64 v2)) rfl (fun _ => rfl) ?_
  refine P_ld 9 (.long (i64 (-9223372036854775808))) rfl (fun _ => rfl) ?_
  refine P_opl 10 (cutl (v2 + (-9223372036854775808))) _ rfl (fun _ => rfl) p_add ?_
  refine P_op 11 (cmp64 (cutl (v0 + (-9223372036854775808))) (cutl (v2 + (-9223372036854775808)))) _ rfl (fun _ => rfl) (o_cmp cutl_r cutl_r) ?_
  refine P_ifF 18 14 rfl rfl rfl cmp64_r rfl (fun h1 => ?_) (fun h1 => ?_)
  · skip
    refine P_ld 19 (.int (i32 0)) rfl (fun _ => rfl) ?_
    exact dg_below_19 w t D bb 0 (l32 0 rfl) (jk [(0, v0), (2, v2)])
  · skip
    refine P_ld 15 (.int (i32 1)) rfl (fun _ => rfl) ?_
    refine P_goto 19 rfl (fun _ => rfl) ?_
    exact dg_below_19 w t D bb 1 (l32 1 rfl) (jk [(0, v0), (2, v2)])
def rfl_twoOf_298 (u0 : Int) : Option Int :=
  some u0
theorem dg_twoOf_298 (w : wX) (t : af_T) (D : Nat) (bb : Nat) (u0 : Int) (r0 : R64 u0) (j : Nat → Int) : PP bb w D pm_329 (298, [(0, .int (i32 (j 0))), (1, .int (i32 (j 1))), (2, .int (i32 (j 2))), (3, .long (i64 (j 3))), (5, .long (i64 (j 5)))], [.long (i64 u0)], t, 0, 0) (QS (FP2 t) (rfl_twoOf_298 u0)) := by
  unfold rfl_twoOf_298
  exact P_rp2 rfl rfl r0
def rfl_twoOf_289 : Option Int :=
  rfl_twoOf_298 0
theorem dg_twoOf_289 (w : wX) (t : af_T) (D : Nat) (bb : Nat) (j : Nat → Int) : PP bb w D pm_329 (289, [(0, .int (i32 (j 0))), (1, .int (i32 (j 1))), (2, .int (i32 (j 2))), (3, .long (i64 (j 3))), (5, .long (i64 (j 5)))], [], t, 0, 0) (QS (FP2 t) (rfl_twoOf_289)) := by
  unfold rfl_twoOf_289
  refine P_ld 290 (.long (i64 0)) rfl (fun _ => rfl) ?_
  refine P_goto 298 rfl (fun _ => rfl) ?_
  exact dg_twoOf_298 w t D bb 0 (l64 0 rfl) (jk [(0, j 0), (1, j 1), (2, j 2), (3, j 3), (5, j 5)])
def rfl_twoOf_273 (u0 : Int) : Option Int :=
  some u0
theorem dg_twoOf_273 (w : wX) (t : af_T) (D : Nat) (bb : Nat) (u0 : Int) (r0 : R64 u0) (j : Nat → Int) : PP bb w D pm_329 (273, [(0, .int (i32 (j 0))), (1, .int (i32 (j 1))), (2, .int (i32 (j 2))), (3, .long (i64 (j 3))), (5, .long (i64 (j 5)))], [.long (i64 u0)], t, 0, 0) (QS (FP2 t) (rfl_twoOf_273 u0)) := by
  unfold rfl_twoOf_273
  exact P_rp2 rfl rfl r0
def rfl_twoOf_260 : Option Int :=
  rfl_twoOf_273 0
theorem dg_twoOf_260 (w : wX) (t : af_T) (D : Nat) (bb : Nat) (j : Nat → Int) : PP bb w D pm_329 (260, [(0, .int (i32 (j 0))), (1, .int (i32 (j 1))), (2, .int (i32 (j 2))), (3, .long (i64 (j 3))), (5, .long (i64 (j 5)))], [], t, 0, 0) (QS (FP2 t) (rfl_twoOf_260)) := by
  unfold rfl_twoOf_260
  refine P_ld 261 (.long (i64 0)) rfl (fun _ => rfl) ?_
  refine P_goto 273 rfl (fun _ => rfl) ?_
  exact dg_twoOf_273 w t D bb 0 (l64 0 rfl) (jk [(0, j 0), (1, j 1), (2, j 2), (3, j 3), (5, j 5)])
def rfl_twoOf_226 (u0 : Int) : Option Int :=
  bnd (rf_one u0) fun y1 =>
  some y1
theorem dg_twoOf_226 (w : wX) (t : af_T) (D : Nat) (bb : Nat) (u0 : Int) (r0 : R32 u0) (j : Nat → Int) : PP bb w D pm_329 (226, [(0, .int (i32 (j 0))), (1, .int (i32 (j 1))), (2, .int (i32 (j 2))), (3, .long (i64 (j 3))), (5, .long (i64 (j 5)))], [.int (i32 u0)], t, 0, 0) (QS (FP2 t) (rfl_twoOf_226 u0)) := by
  unfold rfl_twoOf_226
  refine P_cp2 229 328 [.int (i32 u0)] [] rfl (fun _ => rfl) rfl (D_one w _ D u0 r0) (fun y1 h2 => ?_)
  exact P_rp2 rfl rfl h2
def rfl_twoOf_208 (u0 : Int) : Option Int :=
  bnd (rf_one u0) fun y3 =>
  some y3
theorem dg_twoOf_208 (w : wX) (t : af_T) (D : Nat) (bb : Nat) (u0 : Int) (r0 : R32 u0) (j : Nat → Int) : PP bb w D pm_329 (208, [(0, .int (i32 (j 0))), (1, .int (i32 (j 1))), (2, .int (i32 (j 2))), (3, .long (i64 (j 3))), (5, .long (i64 (j 5)))], [.int (i32 u0)], t, 0, 0) (QS (FP2 t) (rfl_twoOf_208 u0)) := by
  unfold rfl_twoOf_208
  refine P_cp2 211 328 [.int (i32 u0)] [] rfl (fun _ => rfl) rfl (D_one w _ D u0 r0) (fun y3 h4 => ?_)
  exact P_rp2 rfl rfl h4
def rfl_twoOf_170 (u0 : Int) : Option Int :=
  bnd (rf_one u0) fun y5 =>
  some y5
theorem dg_twoOf_170 (w : wX) (t : af_T) (D : Nat) (bb : Nat) (u0 : Int) (r0 : R32 u0) (j : Nat → Int) : PP bb w D pm_329 (170, [(0, .int (i32 (j 0))), (1, .int (i32 (j 1))), (2, .int (i32 (j 2))), (3, .long (i64 (j 3))), (5, .long (i64 (j 5)))], [.int (i32 u0)], t, 0, 0) (QS (FP2 t) (rfl_twoOf_170 u0)) := by
  unfold rfl_twoOf_170
  refine P_cp2 173 328 [.int (i32 u0)] [] rfl (fun _ => rfl) rfl (D_one w _ D u0 r0) (fun y5 h6 => ?_)
  exact P_rp2 rfl rfl h6
def rfl_twoOf_154 (u0 : Int) : Option Int :=
  bnd (rf_one u0) fun y7 =>
  some y7
theorem dg_twoOf_154 (w : wX) (t : af_T) (D : Nat) (bb : Nat) (u0 : Int) (r0 : R32 u0) (j : Nat → Int) : PP bb w D pm_329 (154, [(0, .int (i32 (j 0))), (1, .int (i32 (j 1))), (2, .int (i32 (j 2))), (3, .long (i64 (j 3))), (5, .long (i64 (j 5)))], [.int (i32 u0)], t, 0, 0) (QS (FP2 t) (rfl_twoOf_154 u0)) := by
  unfold rfl_twoOf_154
  refine P_cp2 157 328 [.int (i32 u0)] [] rfl (fun _ => rfl) rfl (D_one w _ D u0 r0) (fun y7 h8 => ?_)
  exact P_rp2 rfl rfl h8
def rf_twoOf (v0 : Int) (v1 : Int) (v2 : Int) (v3 : Int) (v5 : Int) : Option Int :=
  if v0 = 4 then
    if cmp64 v3 v5 = 0 then
      rfl_twoOf_154 1
    else
      rfl_twoOf_154 0
  else
    if v0 = 5 then
      if cmp64 v3 v5 = 0 then
        rfl_twoOf_170 0
      else
        rfl_twoOf_170 1
    else
      if v0 = 6 then
        bnd (rf_below v5 v3) fun y14 =>
        if y14 = 0 then
          rfl_twoOf_208 1
        else
          rfl_twoOf_208 0
      else
        if v0 = 7 then
          bnd (rf_below v3 v5) fun y18 =>
          if y18 = 0 then
            rfl_twoOf_226 1
          else
            rfl_twoOf_226 0
        else
          if v0 = 9 then
            some (and64 v3 v5)
          else
            if v0 = 10 then
              some (or64 v3 v5)
            else
              if v0 = 11 then
                if cmp64 v5 0 < 0 then
                  rfl_twoOf_260
                else
                  if cmp64 v5 v1 < 0 then
                    bnd (rf_cut (shl64 v3 (cut v5)) v1) fun y26 =>
                    rfl_twoOf_273 y26
                  else
                    rfl_twoOf_260
              else
                if v0 = 12 then
                  if cmp64 v5 0 < 0 then
                    rfl_twoOf_289
                  else
                    if cmp64 v5 v1 < 0 then
                      rfl_twoOf_298 (ushr64 v3 (cut v5))
                    else
                      rfl_twoOf_289
                else
                  if v0 = 38 then
                    some (and64 v3 v5)
                  else
                    if v0 = 43 then
                      bnd (rf_cut (cutl (v3 + v5)) v1) fun y33 =>
                      some y33
                    else
                      if v0 = 45 then
                        bnd (rf_cut (cutl (v3 - v5)) v1) fun y36 =>
                        some y36
                      else
                        if v0 = 60 then
                          bnd (rf_below v3 v5) fun y39 =>
                          bnd (rf_one y39) fun y41 =>
                          some y41
                        else
                          if v0 = 62 then
                            bnd (rf_below v5 v3) fun y44 =>
                            bnd (rf_one y44) fun y46 =>
                            some y46
                          else
                            if v0 = 94 then
                              some (xor64 v3 v5)
                            else
                              if v0 = 124 then
                                some (or64 v3 v5)
                              else
                                some (or64 (shl64 v3 v2) v5)
theorem D_twoOf (w : wX) (t : af_T) (D : Nat) (v0 : Int) (v1 : Int) (v2 : Int) (v3 : Int) (v5 : Int) (q0 : R32 v0) (q1 : R32 v1) (q2 : R32 v2) (q3 : R64 v3) (q5 : R64 v5) : PC w D 329 [.int (i32 v0), .int (i32 v1), .int (i32 v2), .long (i64 v3), .long (i64 v5)] t (QS (FP2 t) (rf_twoOf v0 v1 v2 v3 v5)) := by
  refine Pc_of (fun D bb => ?_) D
  unfold rf_twoOf
  show PP bb w D pm_329 (0, [(0, .int (i32 v0)), (1, .int (i32 v1)), (2, .int (i32 v2)), (3, .long (i64 v3)), (5, .long (i64 v5))], [], t, 0, 0) _
  refine P_ld 1 (.int (i32 v0)) rfl (fun _ => rfl) ?_
  refine P_cs (fun h9 => ?_) (fun h9 => ?_)
  · skip
    refine P_cast 4 h9 ?_
    refine P_pop 142 rfl (fun _ => rfl) ?_
    refine P_ld 143 (.long (i64 v3)) rfl (fun _ => rfl) ?_
    refine P_ld 145 (.long (i64 v5)) rfl (fun _ => rfl) ?_
    refine P_op 146 (cmp64 v3 v5) _ rfl (fun _ => rfl) (o_cmp q3 q5) ?_
    refine P_ifE 153 149 rfl rfl rfl cmp64_r rfl (fun h10 => ?_) (fun h10 => ?_)
    · skip
      refine P_ld 150 (.int (i32 1)) rfl (fun _ => rfl) ?_
      refine P_goto 154 rfl (fun _ => rfl) ?_
      exact dg_twoOf_154 w t D bb 1 (l32 1 rfl) (jk [(0, v0), (1, v1), (2, v2), (3, v3), (5, v5)])
    · skip
      refine P_ld 154 (.int (i32 0)) rfl (fun _ => rfl) ?_
      exact dg_twoOf_154 w t D bb 0 (l32 0 rfl) (jk [(0, v0), (1, v1), (2, v2), (3, v3), (5, v5)])
  · skip
    refine P_cs (fun h11 => ?_) (fun h11 => ?_)
    · skip
      refine P_cast 5 h11 ?_
      refine P_pop 158 rfl (fun _ => rfl) ?_
      refine P_ld 159 (.long (i64 v3)) rfl (fun _ => rfl) ?_
      refine P_ld 161 (.long (i64 v5)) rfl (fun _ => rfl) ?_
      refine P_op 162 (cmp64 v3 v5) _ rfl (fun _ => rfl) (o_cmp q3 q5) ?_
      refine P_ifF 169 165 rfl rfl rfl cmp64_r rfl (fun h12 => ?_) (fun h12 => ?_)
      · skip
        refine P_ld 170 (.int (i32 0)) rfl (fun _ => rfl) ?_
        exact dg_twoOf_170 w t D bb 0 (l32 0 rfl) (jk [(0, v0), (1, v1), (2, v2), (3, v3), (5, v5)])
      · skip
        refine P_ld 166 (.int (i32 1)) rfl (fun _ => rfl) ?_
        refine P_goto 170 rfl (fun _ => rfl) ?_
        exact dg_twoOf_170 w t D bb 1 (l32 1 rfl) (jk [(0, v0), (1, v1), (2, v2), (3, v3), (5, v5)])
    · skip
      refine P_cs (fun h13 => ?_) (fun h13 => ?_)
      · skip
        refine P_cast 6 h13 ?_
        refine P_pop 194 rfl (fun _ => rfl) ?_
        refine P_ld 196 (.long (i64 v5)) rfl (fun _ => rfl) ?_
        refine P_ld 197 (.long (i64 v3)) rfl (fun _ => rfl) ?_
        refine P_cp1 200 330 [.long (i64 v5), .long (i64 v3)] [] rfl (fun _ => rfl) rfl (D_below w _ D v5 v3 q5 q3) (fun y14 h15 => ?_)
        refine P_ifE 207 203 rfl rfl rfl h15 rfl (fun h16 => ?_) (fun h16 => ?_)
        · skip
          refine P_ld 204 (.int (i32 1)) rfl (fun _ => rfl) ?_
          refine P_goto 208 rfl (fun _ => rfl) ?_
          exact dg_twoOf_208 w t D bb 1 (l32 1 rfl) (jk [(0, v0), (1, v1), (2, v2), (3, v3), (5, v5)])
        · skip
          refine P_ld 208 (.int (i32 0)) rfl (fun _ => rfl) ?_
          exact dg_twoOf_208 w t D bb 0 (l32 0 rfl) (jk [(0, v0), (1, v1), (2, v2), (3, v3), (5, v5)])
      · skip
        refine P_cs (fun h17 => ?_) (fun h17 => ?_)
        · skip
          refine P_cast 7 h17 ?_
          refine P_pop 212 rfl (fun _ => rfl) ?_
          refine P_ld 213 (.long (i64 v3)) rfl (fun _ => rfl) ?_
          refine P_ld 215 (.long (i64 v5)) rfl (fun _ => rfl) ?_
          refine P_cp1 218 330 [.long (i64 v3), .long (i64 v5)] [] rfl (fun _ => rfl) rfl (D_below w _ D v3 v5 q3 q5) (fun y18 h19 => ?_)
          refine P_ifE 225 221 rfl rfl rfl h19 rfl (fun h20 => ?_) (fun h20 => ?_)
          · skip
            refine P_ld 222 (.int (i32 1)) rfl (fun _ => rfl) ?_
            refine P_goto 226 rfl (fun _ => rfl) ?_
            exact dg_twoOf_226 w t D bb 1 (l32 1 rfl) (jk [(0, v0), (1, v1), (2, v2), (3, v3), (5, v5)])
          · skip
            refine P_ld 226 (.int (i32 0)) rfl (fun _ => rfl) ?_
            exact dg_twoOf_226 w t D bb 0 (l32 0 rfl) (jk [(0, v0), (1, v1), (2, v2), (3, v3), (5, v5)])
        · skip
          refine P_cs (fun h21 => ?_) (fun h21 => ?_)
          · skip
            refine P_cast 9 h21 ?_
            refine P_pop 137 rfl (fun _ => rfl) ?_
            refine P_ld 138 (.long (i64 v3)) rfl (fun _ => rfl) ?_
            refine P_ld 140 (.long (i64 v5)) rfl (fun _ => rfl) ?_
            refine P_opl 141 (and64 v3 v5) _ rfl (fun _ => rfl) (Int64.ofInt_toInt _).symm ?_
            exact P_rp2 rfl rfl t64_r
          · skip
            refine P_cs (fun h22 => ?_) (fun h22 => ?_)
            · skip
              refine P_cast 10 h22 ?_
              refine P_pop 132 rfl (fun _ => rfl) ?_
              refine P_ld 133 (.long (i64 v3)) rfl (fun _ => rfl) ?_
              refine P_ld 135 (.long (i64 v5)) rfl (fun _ => rfl) ?_
              refine P_opl 136 (or64 v3 v5) _ rfl (fun _ => rfl) (Int64.ofInt_toInt _).symm ?_
              exact P_rp2 rfl rfl t64_r
            · skip
              refine P_cs (fun h23 => ?_) (fun h23 => ?_)
              · skip
                refine P_cast 11 h23 ?_
                refine P_pop 245 rfl (fun _ => rfl) ?_
                refine P_ld 247 (.long (i64 v5)) rfl (fun _ => rfl) ?_
                refine P_ld 248 (.long (i64 0)) rfl (fun _ => rfl) ?_
                refine P_op 249 (cmp64 v5 0) _ rfl (fun _ => rfl) (o_cmp q5 (l64 0 rfl)) ?_
                refine P_ifF 260 252 rfl rfl rfl cmp64_r rfl (fun h24 => ?_) (fun h24 => ?_)
                · skip
                  exact dg_twoOf_260 w t D bb (jk [(0, v0), (1, v1), (2, v2), (3, v3), (5, v5)])
                · skip
                  refine P_ld 254 (.long (i64 v5)) rfl (fun _ => rfl) ?_
                  refine P_ld 255 (.int (i32 v1)) rfl (fun _ => rfl) ?_
                  refine P_opl 256 v1 _ rfl (fun _ => rfl) (o_i2l q1) ?_
                  refine P_op 257 (cmp64 v5 v1) _ rfl (fun _ => rfl) (o_cmp q5 (R32_64 q1)) ?_
                  refine P_ifF 264 260 rfl rfl rfl cmp64_r rfl (fun h25 => ?_) (fun h25 => ?_)
                  · skip
                    refine P_ld 265 (.long (i64 v3)) rfl (fun _ => rfl) ?_
                    refine P_ld 267 (.long (i64 v5)) rfl (fun _ => rfl) ?_
                    refine P_op 268 (cut v5) _ rfl (fun _ => rfl) o_l2i ?_
                    refine P_opl 269 (shl64 v3 (cut v5)) _ rfl (fun _ => rfl) (Int64.ofInt_toInt _).symm ?_
                    refine P_ld 270 (.int (i32 v1)) rfl (fun _ => rfl) ?_
                    refine P_cp2 273 315 [.long (i64 (shl64 v3 (cut v5))), .int (i32 v1)] [] rfl (fun _ => rfl) rfl (D_cut w _ D (shl64 v3 (cut v5)) v1 t64_r q1) (fun y26 h27 => ?_)
                    exact dg_twoOf_273 w t D bb y26 h27 (jk [(0, v0), (1, v1), (2, v2), (3, v3), (5, v5)])
                  · skip
                    exact dg_twoOf_260 w t D bb (jk [(0, v0), (1, v1), (2, v2), (3, v3), (5, v5)])
              · skip
                refine P_cs (fun h28 => ?_) (fun h28 => ?_)
                · skip
                  refine P_cast 12 h28 ?_
                  refine P_pop 274 rfl (fun _ => rfl) ?_
                  refine P_ld 276 (.long (i64 v5)) rfl (fun _ => rfl) ?_
                  refine P_ld 277 (.long (i64 0)) rfl (fun _ => rfl) ?_
                  refine P_op 278 (cmp64 v5 0) _ rfl (fun _ => rfl) (o_cmp q5 (l64 0 rfl)) ?_
                  refine P_ifF 289 281 rfl rfl rfl cmp64_r rfl (fun h29 => ?_) (fun h29 => ?_)
                  · skip
                    exact dg_twoOf_289 w t D bb (jk [(0, v0), (1, v1), (2, v2), (3, v3), (5, v5)])
                  · skip
                    refine P_ld 283 (.long (i64 v5)) rfl (fun _ => rfl) ?_
                    refine P_ld 284 (.int (i32 v1)) rfl (fun _ => rfl) ?_
                    refine P_opl 285 v1 _ rfl (fun _ => rfl) (o_i2l q1) ?_
                    refine P_op 286 (cmp64 v5 v1) _ rfl (fun _ => rfl) (o_cmp q5 (R32_64 q1)) ?_
                    refine P_ifF 293 289 rfl rfl rfl cmp64_r rfl (fun h30 => ?_) (fun h30 => ?_)
                    · skip
                      refine P_ld 294 (.long (i64 v3)) rfl (fun _ => rfl) ?_
                      refine P_ld 296 (.long (i64 v5)) rfl (fun _ => rfl) ?_
                      refine P_op 297 (cut v5) _ rfl (fun _ => rfl) o_l2i ?_
                      refine P_opl 298 (ushr64 v3 (cut v5)) _ rfl (fun _ => rfl) (Int64.ofInt_toInt _).symm ?_
                      exact dg_twoOf_298 w t D bb (ushr64 v3 (cut v5)) t64_r (jk [(0, v0), (1, v1), (2, v2), (3, v3), (5, v5)])
                    · skip
                      exact dg_twoOf_289 w t D bb (jk [(0, v0), (1, v1), (2, v2), (3, v3), (5, v5)])
                · skip
                  refine P_cs (fun h31 => ?_) (fun h31 => ?_)
                  · skip
                    refine P_cast 38 h31 ?_
                    refine P_pop 240 rfl (fun _ => rfl) ?_
                    refine P_ld 241 (.long (i64 v3)) rfl (fun _ => rfl) ?_
                    refine P_ld 243 (.long (i64 v5)) rfl (fun _ => rfl) ?_
                    refine P_opl 244 (and64 v3 v5) _ rfl (fun _ => rfl) (Int64.ofInt_toInt _).symm ?_
                    exact P_rp2 rfl rfl t64_r
                  · skip
                    refine P_cs (fun h32 => ?_) (fun h32 => ?_)
                    · skip
                      refine P_cast 43 h32 ?_
                      refine P_pop 299 rfl (fun _ => rfl) ?_
                      refine P_ld 300 (.long (i64 v3)) rfl (fun _ => rfl) ?_
                      refine P_ld 302 (.long (i64 v5)) rfl (fun _ => rfl) ?_
                      refine P_opl 303 (cutl (v3 + v5)) _ rfl (fun _ => rfl) p_add ?_
                      refine P_ld 304 (.int (i32 v1)) rfl (fun _ => rfl) ?_
                      refine P_cp2 307 315 [.long (i64 (cutl (v3 + v5))), .int (i32 v1)] [] rfl (fun _ => rfl) rfl (D_cut w _ D (cutl (v3 + v5)) v1 cutl_r q1) (fun y33 h34 => ?_)
                      exact P_rp2 rfl rfl h34
                    · skip
                      refine P_cs (fun h35 => ?_) (fun h35 => ?_)
                      · skip
                        refine P_cast 45 h35 ?_
                        refine P_pop 308 rfl (fun _ => rfl) ?_
                        refine P_ld 309 (.long (i64 v3)) rfl (fun _ => rfl) ?_
                        refine P_ld 311 (.long (i64 v5)) rfl (fun _ => rfl) ?_
                        refine P_opl 312 (cutl (v3 - v5)) _ rfl (fun _ => rfl) p_sub ?_
                        refine P_ld 313 (.int (i32 v1)) rfl (fun _ => rfl) ?_
                        refine P_cp2 316 315 [.long (i64 (cutl (v3 - v5))), .int (i32 v1)] [] rfl (fun _ => rfl) rfl (D_cut w _ D (cutl (v3 - v5)) v1 cutl_r q1) (fun y36 h37 => ?_)
                        exact P_rp2 rfl rfl h37
                      · skip
                        refine P_cs (fun h38 => ?_) (fun h38 => ?_)
                        · skip
                          refine P_cast 60 h38 ?_
                          refine P_pop 174 rfl (fun _ => rfl) ?_
                          refine P_ld 175 (.long (i64 v3)) rfl (fun _ => rfl) ?_
                          refine P_ld 177 (.long (i64 v5)) rfl (fun _ => rfl) ?_
                          refine P_cp1 180 330 [.long (i64 v3), .long (i64 v5)] [] rfl (fun _ => rfl) rfl (D_below w _ D v3 v5 q3 q5) (fun y39 h40 => ?_)
                          refine P_cp2 183 328 [.int (i32 y39)] [] rfl (fun _ => rfl) rfl (D_one w _ D y39 h40) (fun y41 h42 => ?_)
                          exact P_rp2 rfl rfl h42
                        · skip
                          refine P_cs (fun h43 => ?_) (fun h43 => ?_)
                          · skip
                            refine P_cast 62 h43 ?_
                            refine P_pop 184 rfl (fun _ => rfl) ?_
                            refine P_ld 186 (.long (i64 v5)) rfl (fun _ => rfl) ?_
                            refine P_ld 187 (.long (i64 v3)) rfl (fun _ => rfl) ?_
                            refine P_cp1 190 330 [.long (i64 v5), .long (i64 v3)] [] rfl (fun _ => rfl) rfl (D_below w _ D v5 v3 q5 q3) (fun y44 h45 => ?_)
                            refine P_cp2 193 328 [.int (i32 y44)] [] rfl (fun _ => rfl) rfl (D_one w _ D y44 h45) (fun y46 h47 => ?_)
                            exact P_rp2 rfl rfl h47
                          · skip
                            refine P_cs (fun h48 => ?_) (fun h48 => ?_)
                            · skip
                              refine P_cast 94 h48 ?_
                              refine P_pop 235 rfl (fun _ => rfl) ?_
                              refine P_ld 236 (.long (i64 v3)) rfl (fun _ => rfl) ?_
                              refine P_ld 238 (.long (i64 v5)) rfl (fun _ => rfl) ?_
                              refine P_opl 239 (xor64 v3 v5) _ rfl (fun _ => rfl) (Int64.ofInt_toInt _).symm ?_
                              exact P_rp2 rfl rfl t64_r
                            · skip
                              refine P_cs (fun h49 => ?_) (fun h49 => ?_)
                              · skip
                                refine P_cast 124 h49 ?_
                                refine P_pop 230 rfl (fun _ => rfl) ?_
                                refine P_ld 231 (.long (i64 v3)) rfl (fun _ => rfl) ?_
                                refine P_ld 233 (.long (i64 v5)) rfl (fun _ => rfl) ?_
                                refine P_opl 234 (or64 v3 v5) _ rfl (fun _ => rfl) (Int64.ofInt_toInt _).symm ?_
                                exact P_rp2 rfl rfl t64_r
                              · skip
                                refine P_lkd 317 rfl rfl q0 (by simp [Op.lookupswitch.offset, h9, Ne.symm h9, h11, Ne.symm h11, h13, Ne.symm h13, h17, Ne.symm h17, h21, Ne.symm h21, h22, Ne.symm h22, h23, Ne.symm h23, h28, Ne.symm h28, h31, Ne.symm h31, h32, Ne.symm h32, h35, Ne.symm h35, h38, Ne.symm h38, h43, Ne.symm h43, h48, Ne.symm h48, h49, Ne.symm h49]) ?_
                                refine P_ld 318 (.long (i64 v3)) rfl (fun _ => rfl) ?_
                                refine P_ld 319 (.int (i32 v2)) rfl (fun _ => rfl) ?_
                                refine P_opl 320 (shl64 v3 v2) _ rfl (fun _ => rfl) (Int64.ofInt_toInt _).symm ?_
                                refine P_ld 322 (.long (i64 v5)) rfl (fun _ => rfl) ?_
                                refine P_opl 323 (or64 (shl64 v3 v2) v5) _ rfl (fun _ => rfl) (Int64.ofInt_toInt _).symm ?_
                                exact P_rp2 rfl rfl t64_r
end X55BC
