noncomputable section X26O
def cs_touchesAll_2 (s : Int × mR) : Prop := R32 s.1 ∧ Cn s.2
def cx_touchesAll_2 : (mR) → Prop := (fun (e : mR) => Cn e)
def hd_touchesAll_2 (c : Nat → Option am_C) (N : Nat) (s : Int × mR) (j : Nat → Int) : ag_St af_T := (2, [(0, .ref 189), (1, .int (i32 s.1))], [], (mhp s.2 c, N), 0, 0)
def ex_touchesAll_2 (c : Nat → Option am_C) (N : Nat) : (mR) → (Nat → Int) → ag_St af_T := (fun (e : mR) (j : Nat → Int) => ((29, [(0, .ref 189), (1, .int (i32 (j 1)))], [], (mhp e c, N), 0, 0) : ag_St af_T))
def cs_touchesAll_31 (s : Int × mR) : Prop := R32 s.1 ∧ Cn s.2
def cx_touchesAll_31 : (mR) → Prop := (fun (e : mR) => Cn e)
def hd_touchesAll_31 (c : Nat → Option am_C) (N : Nat) (s : Int × mR) (j : Nat → Int) : ag_St af_T := (31, [(0, .ref 189), (1, .int (i32 s.1))], [], (mhp s.2 c, N), 0, 0)
def ex_touchesAll_31 (c : Nat → Option am_C) (N : Nat) : (mR) → (Nat → Int) → ag_St af_T := (fun (e : mR) (j : Nat → Int) => ((51, [(0, .ref 189), (1, .int (i32 (j 1)))], [], (mhp e c, N), 0, 0) : ag_St af_T))
def cs_touchesAll_53 (s : Int × mR) : Prop := R32 s.1 ∧ Cn s.2
def cx_touchesAll_53 : (mR) → Prop := (fun (e : mR) => Cn e)
def hd_touchesAll_53 (c : Nat → Option am_C) (N : Nat) (s : Int × mR) (j : Nat → Int) : ag_St af_T := (53, [(0, .ref 189), (1, .int (i32 s.1)), (2, .int (i32 (j 2))), (3, .int (i32 (j 3)))], [], (mhp s.2 c, N), 0, 0)
def ex_touchesAll_53 (c : Nat → Option am_C) (N : Nat) : (mR) → (Nat → Int) → ag_St af_T := (fun (e : mR) (j : Nat → Int) => ((216, [(0, .ref 189), (1, .int (i32 (j 1))), (2, .int (i32 (j 2))), (3, .int (i32 (j 3)))], [], (mhp e c, N), 0, 0) : ag_St af_T))
def cs_touchesAll_125 (s : Int × mR) : Prop := R32 s.1 ∧ Cn s.2
def cx_touchesAll_125 : (mR) → Prop := (fun (e : mR) => Cn e)
def hd_touchesAll_125 (c : Nat → Option am_C) (N : Nat) (v1 : Int) (v2 : Int) (s : Int × mR) (j : Nat → Int) : ag_St af_T := (125, [(0, .ref 189), (1, .int (i32 v1)), (2, .int (i32 v2)), (3, .int (i32 s.1))], [], (mhp s.2 c, N), 0, 0)
def ex_touchesAll_125 (c : Nat → Option am_C) (N : Nat) (v1 : Int) (v2 : Int) : (mR) → (Nat → Int) → ag_St af_T := (fun (e : mR) (j : Nat → Int) => ((162, [(0, .ref 189), (1, .int (i32 v1)), (2, .int (i32 v2)), (3, .int (i32 (j 3)))], [], (mhp e c, N), 0, 0) : ag_St af_T))
def cs_touchesAll_167 (s : Int × mR) : Prop := R32 s.1 ∧ Cn s.2
def cx_touchesAll_167 : (mR) → Prop := (fun (e : mR) => Cn e)
def hd_touchesAll_167 (c : Nat → Option am_C) (N : Nat) (v1 : Int) (v2 : Int) (s : Int × mR) (j : Nat → Int) : ag_St af_T := (167, [(0, .ref 189), (1, .int (i32 v1)), (2, .int (i32 v2)), (3, .int (i32 s.1))], [], (mhp s.2 c, N), 0, 0)
def ex_touchesAll_167 (c : Nat → Option am_C) (N : Nat) (v1 : Int) (v2 : Int) : (mR) → (Nat → Int) → ag_St af_T := (fun (e : mR) (j : Nat → Int) => ((199, [(0, .ref 189), (1, .int (i32 v1)), (2, .int (i32 v2)), (3, .int (i32 (j 3)))], [], (mhp e c, N), 0, 0) : ag_St af_T))
def rfl_touchesAll_210 (v1 : Int) (m : mR) : Option (Sum (Int × mR) (mR)) :=
  some (.inl (cut (v1 + 1), m))
theorem dg_touchesAll_210 (w : wX) (c : Nat → Option am_C) (N D : Nat) (bb : Nat) (v1 : Int) (q1 : R32 v1) (m : mR) (hm : Cn m) (j : Nat → Int) (Q2 : Sum (Int × mR) (mR) → ag_Re af_T → Prop) (H1 : ∀ s j, cs_touchesAll_53 s → PP bb w D pm_290 (hd_touchesAll_53 c N s j) (Q2 (.inl s))) (H2 : ∀ x j, cx_touchesAll_53 x → PP bb w D pm_290 (ex_touchesAll_53 c N x j) (Q2 (.inr x))) : PP bb w D pm_290 (210, [(0, .ref 189), (1, .int (i32 v1)), (2, .int (i32 (j 2))), (3, .int (i32 (j 3)))], [], (mhp m c, N), 0, 0) (QS Q2 (rfl_touchesAll_210 v1 m)) := by
  unfold rfl_touchesAll_210
  show PP bb w D pm_290 (210, [(0, .ref 189), (1, .int (i32 v1)), (2, .int (i32 (j 2))), (3, .int (i32 (j 3)))], [], (mhp (mO m [] []) c, N), 0, 0) _
  refine P_inc 213 [(1, .int (i32 (cut (v1 + 1)))), (0, .ref 189), (2, .int (i32 (j 2))), (3, .int (i32 (j 3)))] rfl rfl (by decide) rfl rfl ?_
  refine P_goto 53 rfl (fun _ => rfl) ?_
  refine P_some ?_
  refine P_lv (b := [(0, .ref 189), (1, .int (i32 (cut (v1 + 1)))), (2, .int (i32 (j 2))), (3, .int (i32 (j 3)))]) rfl rfl ⟨rfl, rfl, rfl, rfl, trivial⟩ ?_
  exact H1 (cut (v1 + 1), m) (jk [(2, j 2), (3, j 3)]) ⟨cut_r, hm⟩
def rfl_touchesAll_199 (v1 : Int) (v2 : Int) (m : mR) : Option (Sum (Int × mR) (mR)) :=
  bnd (rf_touchesAction v1 ((m.2 57) v2) m) fun y6 =>
  rfl_touchesAll_210 v1 y6.2
theorem dg_touchesAll_199 (w : wX) (c : Nat → Option am_C) (N D : Nat) (bb : Nat) (v1 : Int) (v2 : Int) (q1 : R32 v1) (q2 : R32 v2) (m : mR) (hm : Cn m) (j : Nat → Int) (Q2 : Sum (Int × mR) (mR) → ag_Re af_T → Prop) (H1 : ∀ s j, cs_touchesAll_53 s → PP bb w D pm_290 (hd_touchesAll_53 c N s j) (Q2 (.inl s))) (H2 : ∀ x j, cx_touchesAll_53 x → PP bb w D pm_290 (ex_touchesAll_53 c N x j) (Q2 (.inr x))) : PP bb w D pm_290 (199, [(0, .ref 189), (1, .int (i32 v1)), (2, .int (i32 v2)), (3, .int (i32 (j 3)))], [], (mhp m c, N), 0, 0) (QS Q2 (rfl_touchesAll_199 v1 v2 m)) := by
  unfold rfl_touchesAll_199
  show PP bb w D pm_290 (199, [(0, .ref 189), (1, .int (i32 v1)), (2, .int (i32 v2)), (3, .int (i32 (j 3)))], [], (mhp (mO m [] []) c, N), 0, 0) _
  refine P_ld 200 (.ref 189) rfl (fun _ => rfl) ?_
  refine P_ld 201 (.int (i32 v1)) rfl (fun _ => rfl) ?_
  refine P_gf 205 (.ref 227) rfl rfl rfl rfl rfl rfl ?_
  refine P_ld 206 (.int (i32 v2)) rfl (fun _ => rfl) ?_
  refine P_iald2 207 57 (m.2 57) rfl rfl rfl q2 rfl ?_
  refine P_ca0 210 294 [.ref 189, .int (i32 v1), .int (i32 ((m.2 57) v2))] [] rfl (fun _ => rfl) rfl (D_touchesAction w m c N D hm v1 ((m.2 57) v2) q1 (rE_i (Cn_a hm 57) rfl _)) (fun y6 n8 => ?_)
  exact dg_touchesAll_210 w c N D bb v1 q1 y6.2 n8 (jk [(2, v2), (3, j 3)]) Q2 H1 H2
def rfl_touchesAll_193 (v1 : Int) (v2 : Int) (v3 : Int) (m : mR) : Option (Sum (Int × mR) (mR)) :=
  some (.inl (cut (v3 + 1), m))
theorem dg_touchesAll_193 (w : wX) (c : Nat → Option am_C) (N D : Nat) (bb : Nat) (v1 : Int) (v2 : Int) (v3 : Int) (q1 : R32 v1) (q2 : R32 v2) (q3 : R32 v3) (m : mR) (hm : Cn m) (j : Nat → Int) (Q2 : Sum (Int × mR) (mR) → ag_Re af_T → Prop) (H1 : ∀ s j, cs_touchesAll_167 s → PP bb w D pm_290 (hd_touchesAll_167 c N v1 v2 s j) (Q2 (.inl s))) (H2 : ∀ x j, cx_touchesAll_167 x → PP bb w D pm_290 (ex_touchesAll_167 c N v1 v2 x j) (Q2 (.inr x))) : PP bb w D pm_290 (193, [(0, .ref 189), (1, .int (i32 v1)), (2, .int (i32 v2)), (3, .int (i32 v3))], [], (mhp m c, N), 0, 0) (QS Q2 (rfl_touchesAll_193 v1 v2 v3 m)) := by
  unfold rfl_touchesAll_193
  show PP bb w D pm_290 (193, [(0, .ref 189), (1, .int (i32 v1)), (2, .int (i32 v2)), (3, .int (i32 v3))], [], (mhp (mO m [] []) c, N), 0, 0) _
  refine P_inc 196 [(3, .int (i32 (cut (v3 + 1)))), (0, .ref 189), (1, .int (i32 v1)), (2, .int (i32 v2))] rfl rfl (by decide) rfl rfl ?_
  refine P_goto 167 rfl (fun _ => rfl) ?_
  refine P_some ?_
  refine P_lv (b := [(0, .ref 189), (1, .int (i32 v1)), (2, .int (i32 v2)), (3, .int (i32 (cut (v3 + 1))))]) rfl rfl ⟨rfl, rfl, rfl, rfl, trivial⟩ ?_
  exact H1 (cut (v3 + 1), m) (jk []) ⟨cut_r, hm⟩
def rfb_touchesAll_167 (v1 : Int) (v2 : Int) (s : Int × mR) : Option (Sum (Int × mR) (mR)) :=
  if cut ((cut (8 * v2)) + ((s.2.2 53) v2)) ≤ s.1 then
    some (.inr s.2)
  else
    bnd (rf_touchesAction v1 ((s.2.2 114) s.1) s.2) fun y11 =>
    rfl_touchesAll_193 v1 v2 s.1 y11.2
theorem dh_touchesAll_167 (w : wX) (c : Nat → Option am_C) (N D : Nat) (v1 : Int) (v2 : Int) (q1 : R32 v1) (q2 : R32 v2) (bb : Nat) (Q2 : Sum (Int × mR) (mR) → ag_Re af_T → Prop) (H1 : ∀ s j, cs_touchesAll_167 s → PP bb w D pm_290 (hd_touchesAll_167 c N v1 v2 s j) (Q2 (.inl s))) (H2 : ∀ x j, cx_touchesAll_167 x → PP bb w D pm_290 (ex_touchesAll_167 c N v1 v2 x j) (Q2 (.inr x))) (s : Int × mR) (j : Nat → Int) (hs : cs_touchesAll_167 s) : PP (bb + 1) w D pm_290 (hd_touchesAll_167 c N v1 v2 s j) (QS Q2 (rfb_touchesAll_167 v1 v2 s)) := by
  obtain ⟨g3, gm⟩ := hs
  unfold rfb_touchesAll_167
  show PP (bb + 1) w D pm_290 (167, [(0, .ref 189), (1, .int (i32 v1)), (2, .int (i32 v2)), (3, .int (i32 s.1))], [], (mhp (mO s.2 [] []) c, N), 0, 0) _
  refine P1_ld 168 (.int (i32 s.1)) rfl (fun _ => rfl) ?_
  refine P_ld 170 (.int (i32 8)) rfl (fun _ => rfl) ?_
  refine P_ld 171 (.int (i32 v2)) rfl (fun _ => rfl) ?_
  refine P_op 172 (cut (8 * v2)) _ rfl (fun _ => rfl) o_mul ?_
  refine P_gf 176 (.ref 223) rfl rfl rfl rfl rfl rfl ?_
  refine P_ld 177 (.int (i32 v2)) rfl (fun _ => rfl) ?_
  refine P_iald2 178 53 (s.2.2 53) rfl rfl rfl q2 rfl ?_
  refine P_op 179 (cut ((cut (8 * v2)) + ((s.2.2 53) v2))) _ rfl (fun _ => rfl) o_add ?_
  refine P_icF 199 182 rfl rfl rfl g3 cut_r rfl (fun h10 => ?_) (fun h10 => ?_)
  · skip
    refine P_some ?_
    exact H2 s.2 (jk [(3, s.1)]) gm
  · skip
    refine P_ld 183 (.ref 189) rfl (fun _ => rfl) ?_
    refine P_ld 184 (.int (i32 v1)) rfl (fun _ => rfl) ?_
    refine P_gf 188 (.ref 274) rfl rfl rfl rfl rfl rfl ?_
    refine P_ld 189 (.int (i32 s.1)) rfl (fun _ => rfl) ?_
    refine P_iald2 190 114 (s.2.2 114) rfl rfl rfl g3 rfl ?_
    refine P_ca0 193 294 [.ref 189, .int (i32 v1), .int (i32 ((s.2.2 114) s.1))] [] rfl (fun _ => rfl) rfl (D_touchesAction w s.2 c N D gm v1 ((s.2.2 114) s.1) q1 (rE_i (Cn_a gm 114) rfl _)) (fun y11 n13 => ?_)
    exact dg_touchesAll_193 w c N D bb v1 v2 s.1 q1 q2 g3 y11.2 n13 (jk []) Q2 H1 H2
def rfl_touchesAll_162 (v1 : Int) (v2 : Int) (m : mR) : Option (Sum (Int × mR) (mR)) :=
  bnd (whl (rfb_touchesAll_167 v1 v2) (cut (8 * v2), m)) (fun e14 : mR =>
    rfl_touchesAll_199 v1 v2 e14)
theorem dg_touchesAll_162 (w : wX) (c : Nat → Option am_C) (N D : Nat) (bb : Nat) (v1 : Int) (v2 : Int) (q1 : R32 v1) (q2 : R32 v2) (m : mR) (hm : Cn m) (j : Nat → Int) (Q2 : Sum (Int × mR) (mR) → ag_Re af_T → Prop) (H1 : ∀ s j, cs_touchesAll_53 s → PP bb w D pm_290 (hd_touchesAll_53 c N s j) (Q2 (.inl s))) (H2 : ∀ x j, cx_touchesAll_53 x → PP bb w D pm_290 (ex_touchesAll_53 c N x j) (Q2 (.inr x))) : PP bb w D pm_290 (162, [(0, .ref 189), (1, .int (i32 v1)), (2, .int (i32 v2)), (3, .int (i32 (j 3)))], [], (mhp m c, N), 0, 0) (QS Q2 (rfl_touchesAll_162 v1 v2 m)) := by
  unfold rfl_touchesAll_162
  show PP bb w D pm_290 (162, [(0, .ref 189), (1, .int (i32 v1)), (2, .int (i32 v2)), (3, .int (i32 (j 3)))], [], (mhp (mO m [] []) c, N), 0, 0) _
  refine P_ld 164 (.int (i32 8)) rfl (fun _ => rfl) ?_
  refine P_ld 165 (.int (i32 v2)) rfl (fun _ => rfl) ?_
  refine P_op 166 (cut (8 * v2)) _ rfl (fun _ => rfl) o_mul ?_
  refine P_sto 167 [(3, .int (i32 (cut (8 * v2)))), (0, .ref 189), (1, .int (i32 v1)), (2, .int (i32 v2))] rfl (fun _ => rfl) ?_
  refine P_lv (b := [(0, .ref 189), (1, .int (i32 v1)), (2, .int (i32 v2)), (3, .int (i32 (cut (8 * v2))))]) rfl rfl ⟨rfl, rfl, rfl, rfl, trivial⟩ ?_
  refine P_bnd ?_
  refine P_whl (fun bb Q2 H1 H2 s9 j9 hs9 => dh_touchesAll_167 w c N D v1 v2 q1 q2 bb Q2 H1 H2 s9 j9 hs9) bb (fun e14 j q15 => ?_) (cut (8 * v2), m) (jk []) ⟨cut_r, hm⟩
  have q16 := q15
  show PP bb w D pm_290 (199, [(0, .ref 189), (1, .int (i32 v1)), (2, .int (i32 v2)), (3, .int (i32 (j 3)))], [], (mhp (mO e14 [] []) c, N), 0, 0) (QS _ (rfl_touchesAll_199 v1 v2 e14))
  exact dg_touchesAll_199 w c N D bb v1 v2 q1 q2 e14 q16 (jk [(3, j 3)]) Q2 H1 H2
def rfl_touchesAll_156 (v1 : Int) (v2 : Int) (v3 : Int) (m : mR) : Option (Sum (Int × mR) (mR)) :=
  some (.inl (cut (v3 + 1), m))
theorem dg_touchesAll_156 (w : wX) (c : Nat → Option am_C) (N D : Nat) (bb : Nat) (v1 : Int) (v2 : Int) (v3 : Int) (q1 : R32 v1) (q2 : R32 v2) (q3 : R32 v3) (m : mR) (hm : Cn m) (j : Nat → Int) (Q2 : Sum (Int × mR) (mR) → ag_Re af_T → Prop) (H1 : ∀ s j, cs_touchesAll_125 s → PP bb w D pm_290 (hd_touchesAll_125 c N v1 v2 s j) (Q2 (.inl s))) (H2 : ∀ x j, cx_touchesAll_125 x → PP bb w D pm_290 (ex_touchesAll_125 c N v1 v2 x j) (Q2 (.inr x))) : PP bb w D pm_290 (156, [(0, .ref 189), (1, .int (i32 v1)), (2, .int (i32 v2)), (3, .int (i32 v3))], [], (mhp m c, N), 0, 0) (QS Q2 (rfl_touchesAll_156 v1 v2 v3 m)) := by
  unfold rfl_touchesAll_156
  show PP bb w D pm_290 (156, [(0, .ref 189), (1, .int (i32 v1)), (2, .int (i32 v2)), (3, .int (i32 v3))], [], (mhp (mO m [] []) c, N), 0, 0) _
  refine P_inc 159 [(3, .int (i32 (cut (v3 + 1)))), (0, .ref 189), (1, .int (i32 v1)), (2, .int (i32 v2))] rfl rfl (by decide) rfl rfl ?_
  refine P_goto 125 rfl (fun _ => rfl) ?_
  refine P_some ?_
  refine P_lv (b := [(0, .ref 189), (1, .int (i32 v1)), (2, .int (i32 v2)), (3, .int (i32 (cut (v3 + 1))))]) rfl rfl ⟨rfl, rfl, rfl, rfl, trivial⟩ ?_
  exact H1 (cut (v3 + 1), m) (jk []) ⟨cut_r, hm⟩
def rfb_touchesAll_125 (v1 : Int) (v2 : Int) (s : Int × mR) : Option (Sum (Int × mR) (mR)) :=
  if cut ((cut (4 * v2)) + ((s.2.2 51) v2)) ≤ s.1 then
    some (.inr s.2)
  else
    bnd (rf_readsCode v1 ((s.2.2 110) s.1) ((s.2.2 111) s.1) s.2) fun y19 =>
    rfl_touchesAll_156 v1 v2 s.1 y19.2
theorem dh_touchesAll_125 (w : wX) (c : Nat → Option am_C) (N D : Nat) (v1 : Int) (v2 : Int) (q1 : R32 v1) (q2 : R32 v2) (bb : Nat) (Q2 : Sum (Int × mR) (mR) → ag_Re af_T → Prop) (H1 : ∀ s j, cs_touchesAll_125 s → PP bb w D pm_290 (hd_touchesAll_125 c N v1 v2 s j) (Q2 (.inl s))) (H2 : ∀ x j, cx_touchesAll_125 x → PP bb w D pm_290 (ex_touchesAll_125 c N v1 v2 x j) (Q2 (.inr x))) (s : Int × mR) (j : Nat → Int) (hs : cs_touchesAll_125 s) : PP (bb + 1) w D pm_290 (hd_touchesAll_125 c N v1 v2 s j) (QS Q2 (rfb_touchesAll_125 v1 v2 s)) := by
  obtain ⟨g3, gm⟩ := hs
  unfold rfb_touchesAll_125
  show PP (bb + 1) w D pm_290 (125, [(0, .ref 189), (1, .int (i32 v1)), (2, .int (i32 v2)), (3, .int (i32 s.1))], [], (mhp (mO s.2 [] []) c, N), 0, 0) _
  refine P1_ld 126 (.int (i32 s.1)) rfl (fun _ => rfl) ?_
  refine P_ld 127 (.int (i32 4)) rfl (fun _ => rfl) ?_
  refine P_ld 128 (.int (i32 v2)) rfl (fun _ => rfl) ?_
  refine P_op 129 (cut (4 * v2)) _ rfl (fun _ => rfl) o_mul ?_
  refine P_gf 133 (.ref 221) rfl rfl rfl rfl rfl rfl ?_
  refine P_ld 134 (.int (i32 v2)) rfl (fun _ => rfl) ?_
  refine P_iald2 135 51 (s.2.2 51) rfl rfl rfl q2 rfl ?_
  refine P_op 136 (cut ((cut (4 * v2)) + ((s.2.2 51) v2))) _ rfl (fun _ => rfl) o_add ?_
  refine P_icF 162 139 rfl rfl rfl g3 cut_r rfl (fun h18 => ?_) (fun h18 => ?_)
  · skip
    refine P_some ?_
    exact H2 s.2 (jk [(3, s.1)]) gm
  · skip
    refine P_ld 140 (.ref 189) rfl (fun _ => rfl) ?_
    refine P_ld 141 (.int (i32 v1)) rfl (fun _ => rfl) ?_
    refine P_gf 145 (.ref 270) rfl rfl rfl rfl rfl rfl ?_
    refine P_ld 146 (.int (i32 s.1)) rfl (fun _ => rfl) ?_
    refine P_iald2 147 110 (s.2.2 110) rfl rfl rfl g3 rfl ?_
    refine P_gf 151 (.ref 271) rfl rfl rfl rfl rfl rfl ?_
    refine P_ld 152 (.int (i32 s.1)) rfl (fun _ => rfl) ?_
    refine P_iald2 153 111 (s.2.2 111) rfl rfl rfl g3 rfl ?_
    refine P_ca0 156 292 [.ref 189, .int (i32 v1), .int (i32 ((s.2.2 110) s.1)), .int (i32 ((s.2.2 111) s.1))] [] rfl (fun _ => rfl) rfl (D_readsCode w s.2 c N D gm v1 ((s.2.2 110) s.1) ((s.2.2 111) s.1) q1 (rE_i (Cn_a gm 110) rfl _) (rE_i (Cn_a gm 111) rfl _)) (fun y19 n21 => ?_)
    exact dg_touchesAll_156 w c N D bb v1 v2 s.1 q1 q2 g3 y19.2 n21 (jk []) Q2 H1 H2
def rfb_touchesAll_53 (s : Int × mR) : Option (Sum (Int × mR) (mR)) :=
  if s.2.1 27 ≤ s.1 then
    some (.inr s.2)
  else
    if (s.2.2 60) s.1 = 0 then
      bnd (rf_touches s.1 ((s.2.2 120) s.1) s.2) fun y32 =>
      rfl_touchesAll_210 s.1 y32.2
    else
      if (s.2.2 60) s.1 = 1 then
        bnd (rf_readsCode s.1 ((s.2.2 121) s.1) ((s.2.2 122) s.1) s.2) fun y29 =>
        rfl_touchesAll_210 s.1 y29.2
      else
        bnd (whl (rfb_touchesAll_125 s.1 ((s.2.2 63) s.1)) (cut (4 * ((s.2.2 63) s.1)), s.2)) (fun e26 : mR =>
          rfl_touchesAll_162 s.1 ((s.2.2 63) s.1) e26)
theorem dh_touchesAll_53 (w : wX) (c : Nat → Option am_C) (N D : Nat) (bb : Nat) (Q2 : Sum (Int × mR) (mR) → ag_Re af_T → Prop) (H1 : ∀ s j, cs_touchesAll_53 s → PP bb w D pm_290 (hd_touchesAll_53 c N s j) (Q2 (.inl s))) (H2 : ∀ x j, cx_touchesAll_53 x → PP bb w D pm_290 (ex_touchesAll_53 c N x j) (Q2 (.inr x))) (s : Int × mR) (j : Nat → Int) (hs : cs_touchesAll_53 s) : PP (bb + 1) w D pm_290 (hd_touchesAll_53 c N s j) (QS Q2 (rfb_touchesAll_53 s)) := by
  obtain ⟨g1, gm⟩ := hs
  unfold rfb_touchesAll_53
  show PP (bb + 1) w D pm_290 (53, [(0, .ref 189), (1, .int (i32 s.1)), (2, .int (i32 (j 2))), (3, .int (i32 (j 3)))], [], (mhp (mO s.2 [] []) c, N), 0, 0) _
  refine P1_ld 54 (.int (i32 s.1)) rfl (fun _ => rfl) ?_
  refine P_gf 58 (.int (i32 (s.2.1 27))) rfl rfl rfl rfl rfl rfl ?_
  refine P_icF 216 61 rfl rfl rfl g1 (Cn_i gm 27 rfl) rfl (fun h23 => ?_) (fun h23 => ?_)
  · skip
    refine P_some ?_
    exact H2 s.2 (jk [(1, s.1), (2, j 2), (3, j 3)]) gm
  · skip
    refine P_gf 65 (.ref 230) rfl rfl rfl rfl rfl rfl ?_
    refine P_ld 66 (.int (i32 s.1)) rfl (fun _ => rfl) ?_
    refine P_iald2 67 60 (s.2.2 60) rfl rfl rfl g1 rfl ?_
    refine P_ifE 84 70 rfl rfl rfl (rE_i (Cn_a gm 60) rfl _) rfl (fun h24 => ?_) (fun h24 => ?_)
    · skip
      refine P_ld 71 (.ref 189) rfl (fun _ => rfl) ?_
      refine P_ld 72 (.int (i32 s.1)) rfl (fun _ => rfl) ?_
      refine P_gf 76 (.ref 279) rfl rfl rfl rfl rfl rfl ?_
      refine P_ld 77 (.int (i32 s.1)) rfl (fun _ => rfl) ?_
      refine P_iald2 78 120 (s.2.2 120) rfl rfl rfl g1 rfl ?_
      refine P_ca0 81 291 [.ref 189, .int (i32 s.1), .int (i32 ((s.2.2 120) s.1))] [] rfl (fun _ => rfl) rfl (D_touches w s.2 c N D gm s.1 ((s.2.2 120) s.1) g1 (rE_i (Cn_a gm 120) rfl _)) (fun y32 n34 => ?_)
      refine P_goto 210 rfl (fun _ => rfl) ?_
      exact dg_touchesAll_210 w c N D bb s.1 g1 y32.2 n34 (jk [(2, j 2), (3, j 3)]) Q2 H1 H2
    · skip
      refine P_gf 88 (.ref 230) rfl rfl rfl rfl rfl rfl ?_
      refine P_ld 89 (.int (i32 s.1)) rfl (fun _ => rfl) ?_
      refine P_iald2 90 60 (s.2.2 60) rfl rfl rfl g1 rfl ?_
      refine P_ld 91 (.int (i32 1)) rfl (fun _ => rfl) ?_
      refine P_icE 114 94 rfl rfl rfl (rE_i (Cn_a gm 60) rfl _) (l32 1 rfl) rfl (fun h25 => ?_) (fun h25 => ?_)
      · skip
        refine P_ld 95 (.ref 189) rfl (fun _ => rfl) ?_
        refine P_ld 96 (.int (i32 s.1)) rfl (fun _ => rfl) ?_
        refine P_gf 100 (.ref 280) rfl rfl rfl rfl rfl rfl ?_
        refine P_ld 101 (.int (i32 s.1)) rfl (fun _ => rfl) ?_
        refine P_iald2 102 121 (s.2.2 121) rfl rfl rfl g1 rfl ?_
        refine P_gf 106 (.ref 281) rfl rfl rfl rfl rfl rfl ?_
        refine P_ld 107 (.int (i32 s.1)) rfl (fun _ => rfl) ?_
        refine P_iald2 108 122 (s.2.2 122) rfl rfl rfl g1 rfl ?_
        refine P_ca0 111 292 [.ref 189, .int (i32 s.1), .int (i32 ((s.2.2 121) s.1)), .int (i32 ((s.2.2 122) s.1))] [] rfl (fun _ => rfl) rfl (D_readsCode w s.2 c N D gm s.1 ((s.2.2 121) s.1) ((s.2.2 122) s.1) g1 (rE_i (Cn_a gm 121) rfl _) (rE_i (Cn_a gm 122) rfl _)) (fun y29 n31 => ?_)
        refine P_goto 210 rfl (fun _ => rfl) ?_
        exact dg_touchesAll_210 w c N D bb s.1 g1 y29.2 n31 (jk [(2, j 2), (3, j 3)]) Q2 H1 H2
      · skip
        refine P_gf 118 (.ref 233) rfl rfl rfl rfl rfl rfl ?_
        refine P_ld 119 (.int (i32 s.1)) rfl (fun _ => rfl) ?_
        refine P_iald2 120 63 (s.2.2 63) rfl rfl rfl g1 rfl ?_
        refine P_sto 121 [(2, .int (i32 ((s.2.2 63) s.1))), (0, .ref 189), (1, .int (i32 s.1)), (3, .int (i32 (j 3)))] rfl (fun _ => rfl) ?_
        refine P_ld 122 (.int (i32 4)) rfl (fun _ => rfl) ?_
        refine P_ld 123 (.int (i32 ((s.2.2 63) s.1))) rfl (fun _ => rfl) ?_
        refine P_op 124 (cut (4 * ((s.2.2 63) s.1))) _ rfl (fun _ => rfl) o_mul ?_
        refine P_sto 125 [(3, .int (i32 (cut (4 * ((s.2.2 63) s.1))))), (2, .int (i32 ((s.2.2 63) s.1))), (0, .ref 189), (1, .int (i32 s.1))] rfl (fun _ => rfl) ?_
        refine P_lv (b := [(0, .ref 189), (1, .int (i32 s.1)), (2, .int (i32 ((s.2.2 63) s.1))), (3, .int (i32 (cut (4 * ((s.2.2 63) s.1)))))]) rfl rfl ⟨rfl, rfl, rfl, rfl, trivial⟩ ?_
        refine P_bnd ?_
        refine P_whl (fun bb Q2 H1 H2 s9 j9 hs9 => dh_touchesAll_125 w c N D s.1 ((s.2.2 63) s.1) g1 (rE_i (Cn_a gm 63) rfl _) bb Q2 H1 H2 s9 j9 hs9) bb (fun e26 j q27 => ?_) (cut (4 * ((s.2.2 63) s.1)), s.2) (jk []) ⟨cut_r, gm⟩
        have q28 := q27
        show PP bb w D pm_290 (162, [(0, .ref 189), (1, .int (i32 s.1)), (2, .int (i32 ((s.2.2 63) s.1))), (3, .int (i32 (j 3)))], [], (mhp (mO e26 [] []) c, N), 0, 0) (QS _ (rfl_touchesAll_162 s.1 ((s.2.2 63) s.1) e26))
        exact dg_touchesAll_162 w c N D bb s.1 ((s.2.2 63) s.1) g1 (rE_i (Cn_a gm 63) rfl _) e26 q28 (jk [(3, j 3)]) Q2 H1 H2
def rfl_touchesAll_51 (m : mR) : Option (Int × mR) :=
  bnd (whl rfb_touchesAll_53 (0, m)) (fun e35 : mR =>
    some (0, e35))
theorem dg_touchesAll_51 (w : wX) (c : Nat → Option am_C) (N D : Nat) (bb : Nat) (m : mR) (hm : Cn m) (j : Nat → Int) : PP bb w D pm_290 (51, [(0, .ref 189), (1, .int (i32 (j 1)))], [], (mhp m c, N), 0, 0) (QS (FR0 c N) (rfl_touchesAll_51 m)) := by
  unfold rfl_touchesAll_51
  show PP bb w D pm_290 (51, [(0, .ref 189), (1, .int (i32 (j 1)))], [], (mhp (mO m [] []) c, N), 0, 0) _
  refine P_ld 52 (.int (i32 0)) rfl (fun _ => rfl) ?_
  refine P_sto 53 [(1, .int (i32 0)), (0, .ref 189)] rfl (fun _ => rfl) ?_
  refine P_lv (b := [(0, .ref 189), (1, .int (i32 0)), (2, .int (i32 0)), (3, .int (i32 0))]) rfl rfl ⟨rfl, rfl, trivial⟩ ?_
  refine P_bnd ?_
  refine P_whl (fun bb Q2 H1 H2 s9 j9 hs9 => dh_touchesAll_53 w c N D bb Q2 H1 H2 s9 j9 hs9) bb (fun e35 j q36 => ?_) (0, m) (jk []) ⟨(l32 0 rfl), hm⟩
  have q37 := q36
  show PP bb w D pm_290 (216, [(0, .ref 189), (1, .int (i32 (j 1))), (2, .int (i32 (j 2))), (3, .int (i32 (j 3)))], [], (mhp (mO e35 [] []) c, N), 0, 0) (QS _ (some (0, e35)))
  exact P_re0 rfl rfl q37
def rfb_touchesAll_31 (s : Int × mR) : Option (Sum (Int × mR) (mR)) :=
  if (384 : Int) ≤ s.1 then
    some (.inr s.2)
  else
    some (.inl (cut (s.1 + 1), (mO s.2 [] [(137, upI (s.2.2 137) s.1 (nar1 0))])))
theorem dh_touchesAll_31 (w : wX) (c : Nat → Option am_C) (N D : Nat) (bb : Nat) (Q2 : Sum (Int × mR) (mR) → ag_Re af_T → Prop) (H1 : ∀ s j, cs_touchesAll_31 s → PP bb w D pm_290 (hd_touchesAll_31 c N s j) (Q2 (.inl s))) (H2 : ∀ x j, cx_touchesAll_31 x → PP bb w D pm_290 (ex_touchesAll_31 c N x j) (Q2 (.inr x))) (s : Int × mR) (j : Nat → Int) (hs : cs_touchesAll_31 s) : PP (bb + 1) w D pm_290 (hd_touchesAll_31 c N s j) (QS Q2 (rfb_touchesAll_31 s)) := by
  obtain ⟨g1, gm⟩ := hs
  unfold rfb_touchesAll_31
  show PP (bb + 1) w D pm_290 (31, [(0, .ref 189), (1, .int (i32 s.1))], [], (mhp (mO s.2 [] []) c, N), 0, 0) _
  refine P1_ld 32 (.int (i32 s.1)) rfl (fun _ => rfl) ?_
  refine P_ld 35 (.int (i32 384)) rfl (fun _ => rfl) ?_
  refine P_icF 51 38 rfl rfl rfl g1 (l32 384 rfl) rfl (fun h39 => ?_) (fun h39 => ?_)
  · skip
    refine P_some ?_
    exact H2 s.2 (jk [(1, s.1)]) gm
  · skip
    refine P_gf 42 (.ref 291) rfl rfl rfl rfl rfl rfl ?_
    refine P_ld 43 (.int (i32 s.1)) rfl (fun _ => rfl) ?_
    refine P_ld 44 (.int (i32 0)) rfl (fun _ => rfl) ?_
    refine P_bast2 (a' := [(137, upI (s.2.2 137) s.1 (nar1 0))]) 45 137 (s.2.2 137) rfl rfl rfl g1 rfl rfl ?_
    refine P_inc 48 [(1, .int (i32 (cut (s.1 + 1)))), (0, .ref 189)] rfl rfl (by decide) rfl rfl ?_
    refine P_goto 31 rfl (fun _ => rfl) ?_
    refine P_some ?_
    refine P_lv (b := [(0, .ref 189), (1, .int (i32 (cut (s.1 + 1))))]) rfl rfl ⟨rfl, rfl, trivial⟩ ?_
    exact H1 (cut (s.1 + 1), (mO s.2 [] [(137, upI (s.2.2 137) s.1 (nar1 0))])) (jk []) ⟨cut_r, (Cn_mO gm trivial ⟨(rE_ui (Cn_a gm 137) rfl t32_r), trivial⟩)⟩
def rfl_touchesAll_29 (m : mR) : Option (Int × mR) :=
  bnd (whl rfb_touchesAll_31 (0, m)) (fun e40 : mR =>
    rfl_touchesAll_51 e40)
theorem dg_touchesAll_29 (w : wX) (c : Nat → Option am_C) (N D : Nat) (bb : Nat) (m : mR) (hm : Cn m) (j : Nat → Int) : PP bb w D pm_290 (29, [(0, .ref 189), (1, .int (i32 (j 1)))], [], (mhp m c, N), 0, 0) (QS (FR0 c N) (rfl_touchesAll_29 m)) := by
  unfold rfl_touchesAll_29
  show PP bb w D pm_290 (29, [(0, .ref 189), (1, .int (i32 (j 1)))], [], (mhp (mO m [] []) c, N), 0, 0) _
  refine P_ld 30 (.int (i32 0)) rfl (fun _ => rfl) ?_
  refine P_sto 31 [(1, .int (i32 0)), (0, .ref 189)] rfl (fun _ => rfl) ?_
  refine P_lv (b := [(0, .ref 189), (1, .int (i32 0))]) rfl rfl ⟨rfl, rfl, trivial⟩ ?_
  refine P_bnd ?_
  refine P_whl (fun bb Q2 H1 H2 s9 j9 hs9 => dh_touchesAll_31 w c N D bb Q2 H1 H2 s9 j9 hs9) bb (fun e40 j q41 => ?_) (0, m) (jk []) ⟨(l32 0 rfl), hm⟩
  have q42 := q41
  show PP bb w D pm_290 (51, [(0, .ref 189), (1, .int (i32 (j 1)))], [], (mhp (mO e40 [] []) c, N), 0, 0) (QS _ (rfl_touchesAll_51 e40))
  exact dg_touchesAll_51 w c N D bb e40 q42 (jk [(1, j 1)])
def rfb_touchesAll_2 (s : Int × mR) : Option (Sum (Int × mR) (mR)) :=
  if (10608 : Int) ≤ s.1 then
    some (.inr s.2)
  else
    some (.inl (cut (s.1 + 1), (mO s.2 [] [(135, upI (s.2.2 135) s.1 (nar1 0)), (136, upI (s.2.2 136) s.1 (nar1 0))])))
theorem dh_touchesAll_2 (w : wX) (c : Nat → Option am_C) (N D : Nat) (bb : Nat) (Q2 : Sum (Int × mR) (mR) → ag_Re af_T → Prop) (H1 : ∀ s j, cs_touchesAll_2 s → PP bb w D pm_290 (hd_touchesAll_2 c N s j) (Q2 (.inl s))) (H2 : ∀ x j, cx_touchesAll_2 x → PP bb w D pm_290 (ex_touchesAll_2 c N x j) (Q2 (.inr x))) (s : Int × mR) (j : Nat → Int) (hs : cs_touchesAll_2 s) : PP (bb + 1) w D pm_290 (hd_touchesAll_2 c N s j) (QS Q2 (rfb_touchesAll_2 s)) := by
  obtain ⟨g1, gm⟩ := hs
  unfold rfb_touchesAll_2
  show PP (bb + 1) w D pm_290 (2, [(0, .ref 189), (1, .int (i32 s.1))], [], (mhp (mO s.2 [] []) c, N), 0, 0) _
  refine P1_ld 3 (.int (i32 s.1)) rfl (fun _ => rfl) ?_
  refine P_ld 6 (.int (i32 10608)) rfl (fun _ => rfl) ?_
  refine P_icF 29 9 rfl rfl rfl g1 (l32 10608 rfl) rfl (fun h44 => ?_) (fun h44 => ?_)
  · skip
    refine P_some ?_
    exact H2 s.2 (jk [(1, s.1)]) gm
  · skip
    refine P_gf 13 (.ref 289) rfl rfl rfl rfl rfl rfl ?_
    refine P_ld 14 (.int (i32 s.1)) rfl (fun _ => rfl) ?_
    refine P_ld 15 (.int (i32 0)) rfl (fun _ => rfl) ?_
    refine P_bast2 (a' := [(135, upI (s.2.2 135) s.1 (nar1 0))]) 16 135 (s.2.2 135) rfl rfl rfl g1 rfl rfl ?_
    refine P_gf 20 (.ref 290) rfl rfl rfl rfl rfl rfl ?_
    refine P_ld 21 (.int (i32 s.1)) rfl (fun _ => rfl) ?_
    refine P_ld 22 (.int (i32 0)) rfl (fun _ => rfl) ?_
    refine P_bast2 (a' := [(135, upI (s.2.2 135) s.1 (nar1 0)), (136, upI (s.2.2 136) s.1 (nar1 0))]) 23 136 (s.2.2 136) rfl rfl rfl g1 rfl rfl ?_
    refine P_inc 26 [(1, .int (i32 (cut (s.1 + 1)))), (0, .ref 189)] rfl rfl (by decide) rfl rfl ?_
    refine P_goto 2 rfl (fun _ => rfl) ?_
    refine P_some ?_
    refine P_lv (b := [(0, .ref 189), (1, .int (i32 (cut (s.1 + 1))))]) rfl rfl ⟨rfl, rfl, trivial⟩ ?_
    exact H1 (cut (s.1 + 1), (mO s.2 [] [(135, upI (s.2.2 135) s.1 (nar1 0)), (136, upI (s.2.2 136) s.1 (nar1 0))])) (jk []) ⟨cut_r, (Cn_mO gm trivial ⟨(rE_ui (Cn_a gm 135) rfl t32_r), (rE_ui (Cn_a gm 136) rfl t32_r), trivial⟩)⟩
def rf_touchesAll (m : mR) : Option (Int × mR) :=
  bnd (whl rfb_touchesAll_2 (0, m)) (fun e45 : mR =>
    rfl_touchesAll_29 e45)
theorem D_touchesAll (w : wX) (m : mR) (c : Nat → Option am_C) (N D : Nat) (hm : Cn m) : PC w D 290 [.ref 189] (mhp m c, N) (QS (FR0 c N) (rf_touchesAll m)) := by
  refine Pc_of (fun D bb => ?_) D
  unfold rf_touchesAll
  show PP bb w D pm_290 (0, [(0, .ref 189)], [], (mhp (mO m [] []) c, N), 0, 0) _
  refine P_ld 1 (.int (i32 0)) rfl (fun _ => rfl) ?_
  refine P_sto 2 [(1, .int (i32 0)), (0, .ref 189)] rfl (fun _ => rfl) ?_
  refine P_lv (b := [(0, .ref 189), (1, .int (i32 0))]) rfl rfl ⟨rfl, rfl, trivial⟩ ?_
  refine P_bnd ?_
  refine P_whl (fun bb Q2 H1 H2 s9 j9 hs9 => dh_touchesAll_2 w c N D bb Q2 H1 H2 s9 j9 hs9) bb (fun e45 j q46 => ?_) (0, m) (jk []) ⟨(l32 0 rfl), hm⟩
  have q47 := q46
  show PP bb w D pm_290 (29, [(0, .ref 189), (1, .int (i32 (j 1)))], [], (mhp (mO e45 [] []) c, N), 0, 0) (QS _ (rfl_touchesAll_29 e45))
  exact dg_touchesAll_29 w c N D bb e45 q47 (jk [(1, j 1)])
def cs_givesTo_5 (s : Int × Int) : Prop := R32 s.1 ∧ R32 s.2
def cx_givesTo_5 : (Int) → Prop := (fun (e : Int) => R32 e)
def hd_givesTo_5 (c : Nat → Option am_C) (N : Nat) (v1 : Int) (v2 : Int) (m : mR) (s : Int × Int) (j : Nat → Int) : ag_St af_T := (5, [(0, .ref 189), (1, .int (i32 v1)), (2, .int (i32 v2)), (3, .int (i32 s.1)), (4, .int (i32 s.2))], [], (mhp m c, N), 0, 0)
def ex_givesTo_5 (c : Nat → Option am_C) (N : Nat) (v1 : Int) (v2 : Int) (m : mR) : (Int) → (Nat → Int) → ag_St af_T := (fun (e : Int) (j : Nat → Int) => ((77, [(0, .ref 189), (1, .int (i32 (j 1))), (2, .int (i32 (j 2))), (3, .int (i32 e)), (4, .int (i32 (j 4)))], [], (mhp m c, N), 0, 0) : ag_St af_T))
def rfl_givesTo_70 (v1 : Int) (v2 : Int) (v4 : Int) (u0 : Int) (m : mR) : Option (Sum (Int × Int) (Int)) :=
  some (.inl (u0, cut (v4 + 1)))
theorem dg_givesTo_70 (w : wX) (c : Nat → Option am_C) (N D : Nat) (bb : Nat) (v1 : Int) (v2 : Int) (v4 : Int) (u0 : Int) (q1 : R32 v1) (q2 : R32 v2) (q4 : R32 v4) (r0 : R32 u0) (m : mR) (hm : Cn m) (j : Nat → Int) (Q2 : Sum (Int × Int) (Int) → ag_Re af_T → Prop) (H1 : ∀ s j, cs_givesTo_5 s → PP bb w D pm_296 (hd_givesTo_5 c N v1 v2 m s j) (Q2 (.inl s))) (H2 : ∀ x j, cx_givesTo_5 x → PP bb w D pm_296 (ex_givesTo_5 c N v1 v2 m x j) (Q2 (.inr x))) : PP bb w D pm_296 (70, [(0, .ref 189), (1, .int (i32 v1)), (2, .int (i32 v2)), (3, .int (i32 (j 3))), (4, .int (i32 v4))], [.int (i32 u0)], (mhp m c, N), 0, 0) (QS Q2 (rfl_givesTo_70 v1 v2 v4 u0 m)) := by
  unfold rfl_givesTo_70
  show PP bb w D pm_296 (70, [(0, .ref 189), (1, .int (i32 v1)), (2, .int (i32 v2)), (3, .int (i32 (j 3))), (4, .int (i32 v4))], [.int (i32 u0)], (mhp (mO m [] []) c, N), 0, 0) _
  refine P_sto 71 [(3, .int (i32 u0)), (0, .ref 189), (1, .int (i32 v1)), (2, .int (i32 v2)), (4, .int (i32 v4))] rfl (fun _ => rfl) ?_
  refine P_inc 74 [(4, .int (i32 (cut (v4 + 1)))), (3, .int (i32 u0)), (0, .ref 189), (1, .int (i32 v1)), (2, .int (i32 v2))] rfl rfl (by decide) rfl rfl ?_
  refine P_goto 5 rfl (fun _ => rfl) ?_
  refine P_some ?_
  refine P_lv (b := [(0, .ref 189), (1, .int (i32 v1)), (2, .int (i32 v2)), (3, .int (i32 u0)), (4, .int (i32 (cut (v4 + 1))))]) rfl rfl ⟨rfl, rfl, rfl, rfl, rfl, trivial⟩ ?_
  exact H1 (u0, cut (v4 + 1)) (jk []) ⟨r0, cut_r⟩
def rfl_givesTo_69 (v1 : Int) (v2 : Int) (v4 : Int) (m : mR) : Option (Sum (Int × Int) (Int)) :=
  rfl_givesTo_70 v1 v2 v4 0 m
theorem dg_givesTo_69 (w : wX) (c : Nat → Option am_C) (N D : Nat) (bb : Nat) (v1 : Int) (v2 : Int) (v4 : Int) (q1 : R32 v1) (q2 : R32 v2) (q4 : R32 v4) (m : mR) (hm : Cn m) (j : Nat → Int) (Q2 : Sum (Int × Int) (Int) → ag_Re af_T → Prop) (H1 : ∀ s j, cs_givesTo_5 s → PP bb w D pm_296 (hd_givesTo_5 c N v1 v2 m s j) (Q2 (.inl s))) (H2 : ∀ x j, cx_givesTo_5 x → PP bb w D pm_296 (ex_givesTo_5 c N v1 v2 m x j) (Q2 (.inr x))) : PP bb w D pm_296 (69, [(0, .ref 189), (1, .int (i32 v1)), (2, .int (i32 v2)), (3, .int (i32 (j 3))), (4, .int (i32 v4))], [], (mhp m c, N), 0, 0) (QS Q2 (rfl_givesTo_69 v1 v2 v4 m)) := by
  unfold rfl_givesTo_69
  show PP bb w D pm_296 (69, [(0, .ref 189), (1, .int (i32 v1)), (2, .int (i32 v2)), (3, .int (i32 (j 3))), (4, .int (i32 v4))], [], (mhp (mO m [] []) c, N), 0, 0) _
  refine P_ld 70 (.int (i32 0)) rfl (fun _ => rfl) ?_
  exact dg_givesTo_70 w c N D bb v1 v2 v4 0 q1 q2 q4 (l32 0 rfl) m hm (jk [(3, j 3)]) Q2 H1 H2
def rfl_givesTo_65 (v1 : Int) (v2 : Int) (v4 : Int) (m : mR) : Option (Sum (Int × Int) (Int)) :=
  rfl_givesTo_70 v1 v2 v4 1 m
theorem dg_givesTo_65 (w : wX) (c : Nat → Option am_C) (N D : Nat) (bb : Nat) (v1 : Int) (v2 : Int) (v4 : Int) (q1 : R32 v1) (q2 : R32 v2) (q4 : R32 v4) (m : mR) (hm : Cn m) (j : Nat → Int) (Q2 : Sum (Int × Int) (Int) → ag_Re af_T → Prop) (H1 : ∀ s j, cs_givesTo_5 s → PP bb w D pm_296 (hd_givesTo_5 c N v1 v2 m s j) (Q2 (.inl s))) (H2 : ∀ x j, cx_givesTo_5 x → PP bb w D pm_296 (ex_givesTo_5 c N v1 v2 m x j) (Q2 (.inr x))) : PP bb w D pm_296 (65, [(0, .ref 189), (1, .int (i32 v1)), (2, .int (i32 v2)), (3, .int (i32 (j 3))), (4, .int (i32 v4))], [], (mhp m c, N), 0, 0) (QS Q2 (rfl_givesTo_65 v1 v2 v4 m)) := by
  unfold rfl_givesTo_65
  show PP bb w D pm_296 (65, [(0, .ref 189), (1, .int (i32 v1)), (2, .int (i32 v2)), (3, .int (i32 (j 3))), (4, .int (i32 v4))], [], (mhp (mO m [] []) c, N), 0, 0) _
  refine P_ld 66 (.int (i32 1)) rfl (fun _ => rfl) ?_
  refine P_goto 70 rfl (fun _ => rfl) ?_
  exact dg_givesTo_70 w c N D bb v1 v2 v4 1 q1 q2 q4 (l32 1 rfl) m hm (jk [(3, j 3)]) Q2 H1 H2
def rfb_givesTo_5 (v1 : Int) (v2 : Int) (m : mR) (s : Int × Int) : Option (Sum (Int × Int) (Int)) :=
  if (221 : Int) ≤ s.2 then
    some (.inr s.1)
  else
    if s.1 = 0 then
      if (m.2 136) (cut ((cut (221 * v1)) + s.2)) = 0 then
        rfl_givesTo_69 v1 v2 s.2 m
      else
        if (m.2 135) (cut ((cut (221 * v2)) + s.2)) = 0 then
          if (m.2 136) (cut ((cut (221 * v2)) + s.2)) = 0 then
            rfl_givesTo_69 v1 v2 s.2 m
          else
            rfl_givesTo_65 v1 v2 s.2 m
        else
          rfl_givesTo_65 v1 v2 s.2 m
    else
      rfl_givesTo_65 v1 v2 s.2 m
theorem dh_givesTo_5 (w : wX) (c : Nat → Option am_C) (N D : Nat) (v1 : Int) (v2 : Int) (q1 : R32 v1) (q2 : R32 v2) (m : mR) (hm : Cn m) (bb : Nat) (Q2 : Sum (Int × Int) (Int) → ag_Re af_T → Prop) (H1 : ∀ s j, cs_givesTo_5 s → PP bb w D pm_296 (hd_givesTo_5 c N v1 v2 m s j) (Q2 (.inl s))) (H2 : ∀ x j, cx_givesTo_5 x → PP bb w D pm_296 (ex_givesTo_5 c N v1 v2 m x j) (Q2 (.inr x))) (s : Int × Int) (j : Nat → Int) (hs : cs_givesTo_5 s) : PP (bb + 1) w D pm_296 (hd_givesTo_5 c N v1 v2 m s j) (QS Q2 (rfb_givesTo_5 v1 v2 m s)) := by
  obtain ⟨g3, g4⟩ := hs
  unfold rfb_givesTo_5
  show PP (bb + 1) w D pm_296 (5, [(0, .ref 189), (1, .int (i32 v1)), (2, .int (i32 v2)), (3, .int (i32 s.1)), (4, .int (i32 s.2))], [], (mhp (mO m [] []) c, N), 0, 0) _
  refine P1_ld 7 (.int (i32 s.2)) rfl (fun _ => rfl) ?_
  refine P_ld 10 (.int (i32 221)) rfl (fun _ => rfl) ?_
  refine P_icF 77 13 rfl rfl rfl g4 (l32 221 rfl) rfl (fun h3 => ?_) (fun h3 => ?_)
  · skip
    refine P_some ?_
    exact H2 s.1 (jk [(1, v1), (2, v2), (4, s.2)]) g3
  · skip
    refine P_ld 14 (.int (i32 s.1)) rfl (fun _ => rfl) ?_
    refine P_ifE 65 17 rfl rfl rfl g3 rfl (fun h4 => ?_) (fun h4 => ?_)
    · skip
      refine P_gf 21 (.ref 290) rfl rfl rfl rfl rfl rfl ?_
      refine P_ld 24 (.int (i32 221)) rfl (fun _ => rfl) ?_
      refine P_ld 25 (.int (i32 v1)) rfl (fun _ => rfl) ?_
      refine P_op 26 (cut (221 * v1)) _ rfl (fun _ => rfl) o_mul ?_
      refine P_ld 28 (.int (i32 s.2)) rfl (fun _ => rfl) ?_
      refine P_op 29 (cut ((cut (221 * v1)) + s.2)) _ rfl (fun _ => rfl) o_add ?_
      refine P_bald2 30 136 (m.2 136) rfl rfl rfl cut_r rfl ?_
      refine P_ifF 69 33 rfl rfl rfl (rE_i (Cn_a hm 136) rfl _) rfl (fun h5 => ?_) (fun h5 => ?_)
      · skip
        exact dg_givesTo_69 w c N D bb v1 v2 s.2 q1 q2 g4 m hm (jk [(3, s.1)]) Q2 H1 H2
      · skip
        refine P_gf 37 (.ref 289) rfl rfl rfl rfl rfl rfl ?_
        refine P_ld 40 (.int (i32 221)) rfl (fun _ => rfl) ?_
        refine P_ld 41 (.int (i32 v2)) rfl (fun _ => rfl) ?_
        refine P_op 42 (cut (221 * v2)) _ rfl (fun _ => rfl) o_mul ?_
        refine P_ld 44 (.int (i32 s.2)) rfl (fun _ => rfl) ?_
        refine P_op 45 (cut ((cut (221 * v2)) + s.2)) _ rfl (fun _ => rfl) o_add ?_
        refine P_bald2 46 135 (m.2 135) rfl rfl rfl cut_r rfl ?_
        refine P_ifE 65 49 rfl rfl rfl (rE_i (Cn_a hm 135) rfl _) rfl (fun h6 => ?_) (fun h6 => ?_)
        · skip
          refine P_gf 53 (.ref 290) rfl rfl rfl rfl rfl rfl ?_
          refine P_ld 56 (.int (i32 221)) rfl (fun _ => rfl) ?_
          refine P_ld 57 (.int (i32 v2)) rfl (fun _ => rfl) ?_
          refine P_op 58 (cut (221 * v2)) _ rfl (fun _ => rfl) o_mul ?_
          refine P_ld 60 (.int (i32 s.2)) rfl (fun _ => rfl) ?_
          refine P_op 61 (cut ((cut (221 * v2)) + s.2)) _ rfl (fun _ => rfl) o_add ?_
          refine P_bald2 62 136 (m.2 136) rfl rfl rfl cut_r rfl ?_
          refine P_ifF 69 65 rfl rfl rfl (rE_i (Cn_a hm 136) rfl _) rfl (fun h7 => ?_) (fun h7 => ?_)
          · skip
            exact dg_givesTo_69 w c N D bb v1 v2 s.2 q1 q2 g4 m hm (jk [(3, s.1)]) Q2 H1 H2
          · skip
            exact dg_givesTo_65 w c N D bb v1 v2 s.2 q1 q2 g4 m hm (jk [(3, s.1)]) Q2 H1 H2
        · skip
          exact dg_givesTo_65 w c N D bb v1 v2 s.2 q1 q2 g4 m hm (jk [(3, s.1)]) Q2 H1 H2
    · skip
      exact dg_givesTo_65 w c N D bb v1 v2 s.2 q1 q2 g4 m hm (jk [(3, s.1)]) Q2 H1 H2
def rf_givesTo (v1 : Int) (v2 : Int) (m : mR) : Option Int :=
  bnd (whl (rfb_givesTo_5 v1 v2 m) (0, 0)) (fun e8 : Int =>
    some e8)
theorem D_givesTo (w : wX) (m : mR) (c : Nat → Option am_C) (N D : Nat) (hm : Cn m) (v1 : Int) (v2 : Int) (q1 : R32 v1) (q2 : R32 v2) : PC w D 296 [.ref 189, .int (i32 v1), .int (i32 v2)] (mhp m c, N) (QS (FP1 (mhp m c, N)) (rf_givesTo v1 v2 m)) := by
  refine Pc_of (fun D bb => ?_) D
  unfold rf_givesTo
  show PP bb w D pm_296 (0, [(0, .ref 189), (1, .int (i32 v1)), (2, .int (i32 v2))], [], (mhp (mO m [] []) c, N), 0, 0) _
  refine P_ld 1 (.int (i32 0)) rfl (fun _ => rfl) ?_
  refine P_sto 2 [(3, .int (i32 0)), (0, .ref 189), (1, .int (i32 v1)), (2, .int (i32 v2))] rfl (fun _ => rfl) ?_
  refine P_ld 3 (.int (i32 0)) rfl (fun _ => rfl) ?_
  refine P_sto 5 [(4, .int (i32 0)), (3, .int (i32 0)), (0, .ref 189), (1, .int (i32 v1)), (2, .int (i32 v2))] rfl (fun _ => rfl) ?_
  refine P_lv (b := [(0, .ref 189), (1, .int (i32 v1)), (2, .int (i32 v2)), (3, .int (i32 0)), (4, .int (i32 0))]) rfl rfl ⟨rfl, rfl, rfl, rfl, rfl, trivial⟩ ?_
  refine P_bnd ?_
  refine P_whl (fun bb Q2 H1 H2 s9 j9 hs9 => dh_givesTo_5 w c N D v1 v2 q1 q2 m hm bb Q2 H1 H2 s9 j9 hs9) bb (fun e8 j q9 => ?_) (0, 0) (jk []) ⟨(l32 0 rfl), (l32 0 rfl)⟩
  have q10 := q9
  show PP bb w D pm_296 (77, [(0, .ref 189), (1, .int (i32 (j 1))), (2, .int (i32 (j 2))), (3, .int (i32 e8)), (4, .int (i32 (j 4)))], [], (mhp (mO m [] []) c, N), 0, 0) (QS _ (some e8))
  refine P_ld 78 (.int (i32 e8)) rfl (fun _ => rfl) ?_
  exact P_rp1 rfl q10
def cs_isWithin_7 (s : Int) : Prop := R32 s
def cx_isWithin_7 : (Int) → Prop := (fun (e : Int) => R32 e)
def hd_isWithin_7 (c : Nat → Option am_C) (N : Nat) (v2 : Int) (m : mR) (s : Int) (j : Nat → Int) : ag_St af_T := (7, [(0, .ref 189), (1, .int (i32 (j 1))), (2, .int (i32 v2)), (3, .int (i32 s))], [], (mhp m c, N), 0, 0)
def ex_isWithin_7 (c : Nat → Option am_C) (N : Nat) (v2 : Int) (m : mR) : (Int) → (Nat → Int) → ag_St af_T := (fun (e : Int) (j : Nat → Int) => ((26, [(0, .ref 189), (1, .int (i32 (j 1))), (2, .int (i32 v2)), (3, .int (i32 e))], [], (mhp m c, N), 0, 0) : ag_St af_T))
def rfl_isWithin_36 (u0 : Int) (m : mR) : Option Int :=
  some u0
theorem dg_isWithin_36 (w : wX) (c : Nat → Option am_C) (N D : Nat) (bb : Nat) (u0 : Int) (r0 : R32 u0) (m : mR) (hm : Cn m) (j : Nat → Int) : PP bb w D pm_297 (36, [(0, .ref 189), (1, .int (i32 (j 1))), (2, .int (i32 (j 2))), (3, .int (i32 (j 3)))], [.int (i32 u0)], (mhp m c, N), 0, 0) (QS (FP1 (mhp m c, N)) (rfl_isWithin_36 u0 m)) := by
  unfold rfl_isWithin_36
  show PP bb w D pm_297 (36, [(0, .ref 189), (1, .int (i32 (j 1))), (2, .int (i32 (j 2))), (3, .int (i32 (j 3)))], [.int (i32 u0)], (mhp (mO m [] []) c, N), 0, 0) _
  exact P_rp1 rfl r0
def rfl_isWithin_26 (v2 : Int) (v3 : Int) (m : mR) : Option Int :=
  if v3 = v2 then
    rfl_isWithin_36 1 m
  else
    rfl_isWithin_36 0 m
theorem dg_isWithin_26 (w : wX) (c : Nat → Option am_C) (N D : Nat) (bb : Nat) (v2 : Int) (v3 : Int) (q2 : R32 v2) (q3 : R32 v3) (m : mR) (hm : Cn m) (j : Nat → Int) : PP bb w D pm_297 (26, [(0, .ref 189), (1, .int (i32 (j 1))), (2, .int (i32 v2)), (3, .int (i32 v3))], [], (mhp m c, N), 0, 0) (QS (FP1 (mhp m c, N)) (rfl_isWithin_26 v2 v3 m)) := by
  unfold rfl_isWithin_26
  show PP bb w D pm_297 (26, [(0, .ref 189), (1, .int (i32 (j 1))), (2, .int (i32 v2)), (3, .int (i32 v3))], [], (mhp (mO m [] []) c, N), 0, 0) _
  refine P_ld 27 (.int (i32 v3)) rfl (fun _ => rfl) ?_
  refine P_ld 28 (.int (i32 v2)) rfl (fun _ => rfl) ?_
  refine P_icE 35 31 rfl rfl rfl q3 q2 rfl (fun h2 => ?_) (fun h2 => ?_)
  · skip
    refine P_ld 32 (.int (i32 1)) rfl (fun _ => rfl) ?_
    refine P_goto 36 rfl (fun _ => rfl) ?_
    exact dg_isWithin_36 w c N D bb 1 (l32 1 rfl) m hm (jk [(1, j 1), (2, v2), (3, v3)])
  · skip
    refine P_ld 36 (.int (i32 0)) rfl (fun _ => rfl) ?_
    exact dg_isWithin_36 w c N D bb 0 (l32 0 rfl) m hm (jk [(1, j 1), (2, v2), (3, v3)])
def rfb_isWithin_7 (v2 : Int) (m : mR) (s : Int) : Option (Sum (Int) (Int)) :=
  if s < 0 then
    some (.inr s)
  else
    if s = v2 then
      some (.inr s)
    else
      some (.inl ((m.2 61) s))
theorem dh_isWithin_7 (w : wX) (c : Nat → Option am_C) (N D : Nat) (v2 : Int) (q2 : R32 v2) (m : mR) (hm : Cn m) (bb : Nat) (Q2 : Sum (Int) (Int) → ag_Re af_T → Prop) (H1 : ∀ s j, cs_isWithin_7 s → PP bb w D pm_297 (hd_isWithin_7 c N v2 m s j) (Q2 (.inl s))) (H2 : ∀ x j, cx_isWithin_7 x → PP bb w D pm_297 (ex_isWithin_7 c N v2 m x j) (Q2 (.inr x))) (s : Int) (j : Nat → Int) (hs : cs_isWithin_7 s) : PP (bb + 1) w D pm_297 (hd_isWithin_7 c N v2 m s j) (QS Q2 (rfb_isWithin_7 v2 m s)) := by
  have g3 := hs
  unfold rfb_isWithin_7
  show PP (bb + 1) w D pm_297 (7, [(0, .ref 189), (1, .int (i32 (j 1))), (2, .int (i32 v2)), (3, .int (i32 s))], [], (mhp (mO m [] []) c, N), 0, 0) _
  refine P1_ld 8 (.int (i32 s)) rfl (fun _ => rfl) ?_
  refine P_ifF 26 11 rfl rfl rfl g3 rfl (fun h4 => ?_) (fun h4 => ?_)
  · skip
    refine P_some ?_
    exact H2 s (jk [(1, j 1)]) g3
  · skip
    refine P_ld 12 (.int (i32 s)) rfl (fun _ => rfl) ?_
    refine P_ld 13 (.int (i32 v2)) rfl (fun _ => rfl) ?_
    refine P_icF 26 16 rfl rfl rfl g3 q2 rfl (fun h5 => ?_) (fun h5 => ?_)
    · skip
      refine P_some ?_
      exact H2 s (jk [(1, j 1)]) g3
    · skip
      refine P_gf 20 (.ref 231) rfl rfl rfl rfl rfl rfl ?_
      refine P_ld 21 (.int (i32 s)) rfl (fun _ => rfl) ?_
      refine P_iald2 22 61 (m.2 61) rfl rfl rfl g3 rfl ?_
      refine P_sto 23 [(3, .int (i32 ((m.2 61) s))), (0, .ref 189), (1, .int (i32 (j 1))), (2, .int (i32 v2))] rfl (fun _ => rfl) ?_
      refine P_goto 7 rfl (fun _ => rfl) ?_
      refine P_some ?_
      refine P_lv (b := [(0, .ref 189), (1, .int (i32 (j 1))), (2, .int (i32 v2)), (3, .int (i32 ((m.2 61) s)))]) rfl rfl ⟨rfl, rfl, rfl, rfl, trivial⟩ ?_
      exact H1 ((m.2 61) s) (jk [(1, j 1)]) (rE_i (Cn_a hm 61) rfl _)
def rf_isWithin (v1 : Int) (v2 : Int) (m : mR) : Option Int :=
  bnd (whl (rfb_isWithin_7 v2 m) ((m.2 61) v1)) (fun e6 : Int =>
    rfl_isWithin_26 v2 e6 m)
theorem D_isWithin (w : wX) (m : mR) (c : Nat → Option am_C) (N D : Nat) (hm : Cn m) (v1 : Int) (v2 : Int) (q1 : R32 v1) (q2 : R32 v2) : PC w D 297 [.ref 189, .int (i32 v1), .int (i32 v2)] (mhp m c, N) (QS (FP1 (mhp m c, N)) (rf_isWithin v1 v2 m)) := by
  refine Pc_of (fun D bb => ?_) D
  unfold rf_isWithin
  show PP bb w D pm_297 (0, [(0, .ref 189), (1, .int (i32 v1)), (2, .int (i32 v2))], [], (mhp (mO m [] []) c, N), 0, 0) _
  refine P_gf 4 (.ref 231) rfl rfl rfl rfl rfl rfl ?_
  refine P_ld 5 (.int (i32 v1)) rfl (fun _ => rfl) ?_
  refine P_iald2 6 61 (m.2 61) rfl rfl rfl q1 rfl ?_
  refine P_sto 7 [(3, .int (i32 ((m.2 61) v1))), (0, .ref 189), (1, .int (i32 v1)), (2, .int (i32 v2))] rfl (fun _ => rfl) ?_
  refine P_lv (b := [(0, .ref 189), (1, .int (i32 v1)), (2, .int (i32 v2)), (3, .int (i32 ((m.2 61) v1)))]) rfl rfl ⟨rfl, rfl, rfl, rfl, trivial⟩ ?_
  refine P_bnd ?_
  refine P_whl (fun bb Q2 H1 H2 s9 j9 hs9 => dh_isWithin_7 w c N D v2 q2 m hm bb Q2 H1 H2 s9 j9 hs9) bb (fun e6 j q7 => ?_) ((m.2 61) v1) (jk [(1, v1)]) (rE_i (Cn_a hm 61) rfl _)
  have q8 := q7
  show PP bb w D pm_297 (26, [(0, .ref 189), (1, .int (i32 (j 1))), (2, .int (i32 v2)), (3, .int (i32 e6))], [], (mhp (mO m [] []) c, N), 0, 0) (QS _ (rfl_isWithin_26 v2 e6 m))
  exact dg_isWithin_26 w c N D bb v2 e6 q2 q8 m hm (jk [(1, j 1)])
def cs_readsAhead_5 (s : Int × Int) : Prop := R32 s.1 ∧ R32 s.2
def cx_readsAhead_5 : (Int) → Prop := (fun (e : Int) => R32 e)
def hd_readsAhead_5 (c : Nat → Option am_C) (N : Nat) (v1 : Int) (v2 : Int) (m : mR) (s : Int × Int) (j : Nat → Int) : ag_St af_T := (5, [(0, .ref 189), (1, .int (i32 v1)), (2, .int (i32 v2)), (3, .int (i32 s.1)), (4, .int (i32 s.2))], [], (mhp m c, N), 0, 0)
def ex_readsAhead_5 (c : Nat → Option am_C) (N : Nat) (v1 : Int) (v2 : Int) (m : mR) : (Int) → (Nat → Int) → ag_St af_T := (fun (e : Int) (j : Nat → Int) => ((61, [(0, .ref 189), (1, .int (i32 (j 1))), (2, .int (i32 (j 2))), (3, .int (i32 e)), (4, .int (i32 (j 4)))], [], (mhp m c, N), 0, 0) : ag_St af_T))
def rfl_readsAhead_54 (v1 : Int) (v2 : Int) (v4 : Int) (u0 : Int) (m : mR) : Option (Sum (Int × Int) (Int)) :=
  some (.inl (u0, cut (v4 + 1)))
theorem dg_readsAhead_54 (w : wX) (c : Nat → Option am_C) (N D : Nat) (bb : Nat) (v1 : Int) (v2 : Int) (v4 : Int) (u0 : Int) (q1 : R32 v1) (q2 : R32 v2) (q4 : R32 v4) (r0 : R32 u0) (m : mR) (hm : Cn m) (j : Nat → Int) (Q2 : Sum (Int × Int) (Int) → ag_Re af_T → Prop) (H1 : ∀ s j, cs_readsAhead_5 s → PP bb w D pm_298 (hd_readsAhead_5 c N v1 v2 m s j) (Q2 (.inl s))) (H2 : ∀ x j, cx_readsAhead_5 x → PP bb w D pm_298 (ex_readsAhead_5 c N v1 v2 m x j) (Q2 (.inr x))) : PP bb w D pm_298 (54, [(0, .ref 189), (1, .int (i32 v1)), (2, .int (i32 v2)), (3, .int (i32 (j 3))), (4, .int (i32 v4))], [.int (i32 u0)], (mhp m c, N), 0, 0) (QS Q2 (rfl_readsAhead_54 v1 v2 v4 u0 m)) := by
  unfold rfl_readsAhead_54
  show PP bb w D pm_298 (54, [(0, .ref 189), (1, .int (i32 v1)), (2, .int (i32 v2)), (3, .int (i32 (j 3))), (4, .int (i32 v4))], [.int (i32 u0)], (mhp (mO m [] []) c, N), 0, 0) _
  refine P_sto 55 [(3, .int (i32 u0)), (0, .ref 189), (1, .int (i32 v1)), (2, .int (i32 v2)), (4, .int (i32 v4))] rfl (fun _ => rfl) ?_
  refine P_inc 58 [(4, .int (i32 (cut (v4 + 1)))), (3, .int (i32 u0)), (0, .ref 189), (1, .int (i32 v1)), (2, .int (i32 v2))] rfl rfl (by decide) rfl rfl ?_
  refine P_goto 5 rfl (fun _ => rfl) ?_
  refine P_some ?_
  refine P_lv (b := [(0, .ref 189), (1, .int (i32 v1)), (2, .int (i32 v2)), (3, .int (i32 u0)), (4, .int (i32 (cut (v4 + 1))))]) rfl rfl ⟨rfl, rfl, rfl, rfl, rfl, trivial⟩ ?_
  exact H1 (u0, cut (v4 + 1)) (jk []) ⟨r0, cut_r⟩
def rfl_readsAhead_53 (v1 : Int) (v2 : Int) (v4 : Int) (m : mR) : Option (Sum (Int × Int) (Int)) :=
  rfl_readsAhead_54 v1 v2 v4 0 m
theorem dg_readsAhead_53 (w : wX) (c : Nat → Option am_C) (N D : Nat) (bb : Nat) (v1 : Int) (v2 : Int) (v4 : Int) (q1 : R32 v1) (q2 : R32 v2) (q4 : R32 v4) (m : mR) (hm : Cn m) (j : Nat → Int) (Q2 : Sum (Int × Int) (Int) → ag_Re af_T → Prop) (H1 : ∀ s j, cs_readsAhead_5 s → PP bb w D pm_298 (hd_readsAhead_5 c N v1 v2 m s j) (Q2 (.inl s))) (H2 : ∀ x j, cx_readsAhead_5 x → PP bb w D pm_298 (ex_readsAhead_5 c N v1 v2 m x j) (Q2 (.inr x))) : PP bb w D pm_298 (53, [(0, .ref 189), (1, .int (i32 v1)), (2, .int (i32 v2)), (3, .int (i32 (j 3))), (4, .int (i32 v4))], [], (mhp m c, N), 0, 0) (QS Q2 (rfl_readsAhead_53 v1 v2 v4 m)) := by
  unfold rfl_readsAhead_53
  show PP bb w D pm_298 (53, [(0, .ref 189), (1, .int (i32 v1)), (2, .int (i32 v2)), (3, .int (i32 (j 3))), (4, .int (i32 v4))], [], (mhp (mO m [] []) c, N), 0, 0) _
  refine P_ld 54 (.int (i32 0)) rfl (fun _ => rfl) ?_
  exact dg_readsAhead_54 w c N D bb v1 v2 v4 0 q1 q2 q4 (l32 0 rfl) m hm (jk [(3, j 3)]) Q2 H1 H2
def rfl_readsAhead_49 (v1 : Int) (v2 : Int) (v4 : Int) (m : mR) : Option (Sum (Int × Int) (Int)) :=
  rfl_readsAhead_54 v1 v2 v4 1 m
theorem dg_readsAhead_49 (w : wX) (c : Nat → Option am_C) (N D : Nat) (bb : Nat) (v1 : Int) (v2 : Int) (v4 : Int) (q1 : R32 v1) (q2 : R32 v2) (q4 : R32 v4) (m : mR) (hm : Cn m) (j : Nat → Int) (Q2 : Sum (Int × Int) (Int) → ag_Re af_T → Prop) (H1 : ∀ s j, cs_readsAhead_5 s → PP bb w D pm_298 (hd_readsAhead_5 c N v1 v2 m s j) (Q2 (.inl s))) (H2 : ∀ x j, cx_readsAhead_5 x → PP bb w D pm_298 (ex_readsAhead_5 c N v1 v2 m x j) (Q2 (.inr x))) : PP bb w D pm_298 (49, [(0, .ref 189), (1, .int (i32 v1)), (2, .int (i32 v2)), (3, .int (i32 (j 3))), (4, .int (i32 v4))], [], (mhp m c, N), 0, 0) (QS Q2 (rfl_readsAhead_49 v1 v2 v4 m)) := by
  unfold rfl_readsAhead_49
  show PP bb w D pm_298 (49, [(0, .ref 189), (1, .int (i32 v1)), (2, .int (i32 v2)), (3, .int (i32 (j 3))), (4, .int (i32 v4))], [], (mhp (mO m [] []) c, N), 0, 0) _
  refine P_ld 50 (.int (i32 1)) rfl (fun _ => rfl) ?_
  refine P_goto 54 rfl (fun _ => rfl) ?_
  exact dg_readsAhead_54 w c N D bb v1 v2 v4 1 q1 q2 q4 (l32 1 rfl) m hm (jk [(3, j 3)]) Q2 H1 H2
def rfb_readsAhead_5 (v1 : Int) (v2 : Int) (m : mR) (s : Int × Int) : Option (Sum (Int × Int) (Int)) :=
  if (221 : Int) ≤ s.2 then
    some (.inr s.1)
  else
    if s.1 = 0 then
      if (m.2 135) (cut ((cut (221 * v1)) + s.2)) = 0 then
        rfl_readsAhead_53 v1 v2 s.2 m
      else
        if (m.2 136) (cut ((cut (221 * v2)) + s.2)) = 0 then
          rfl_readsAhead_53 v1 v2 s.2 m
        else
          rfl_readsAhead_49 v1 v2 s.2 m
    else
      rfl_readsAhead_49 v1 v2 s.2 m
theorem dh_readsAhead_5 (w : wX) (c : Nat → Option am_C) (N D : Nat) (v1 : Int) (v2 : Int) (q1 : R32 v1) (q2 : R32 v2) (m : mR) (hm : Cn m) (bb : Nat) (Q2 : Sum (Int × Int) (Int) → ag_Re af_T → Prop) (H1 : ∀ s j, cs_readsAhead_5 s → PP bb w D pm_298 (hd_readsAhead_5 c N v1 v2 m s j) (Q2 (.inl s))) (H2 : ∀ x j, cx_readsAhead_5 x → PP bb w D pm_298 (ex_readsAhead_5 c N v1 v2 m x j) (Q2 (.inr x))) (s : Int × Int) (j : Nat → Int) (hs : cs_readsAhead_5 s) : PP (bb + 1) w D pm_298 (hd_readsAhead_5 c N v1 v2 m s j) (QS Q2 (rfb_readsAhead_5 v1 v2 m s)) := by
  obtain ⟨g3, g4⟩ := hs
  unfold rfb_readsAhead_5
  show PP (bb + 1) w D pm_298 (5, [(0, .ref 189), (1, .int (i32 v1)), (2, .int (i32 v2)), (3, .int (i32 s.1)), (4, .int (i32 s.2))], [], (mhp (mO m [] []) c, N), 0, 0) _
  refine P1_ld 7 (.int (i32 s.2)) rfl (fun _ => rfl) ?_
  refine P_ld 10 (.int (i32 221)) rfl (fun _ => rfl) ?_
  refine P_icF 61 13 rfl rfl rfl g4 (l32 221 rfl) rfl (fun h3 => ?_) (fun h3 => ?_)
  · skip
    refine P_some ?_
    exact H2 s.1 (jk [(1, v1), (2, v2), (4, s.2)]) g3
  · skip
    refine P_ld 14 (.int (i32 s.1)) rfl (fun _ => rfl) ?_
    refine P_ifE 49 17 rfl rfl rfl g3 rfl (fun h4 => ?_) (fun h4 => ?_)
    · skip
      refine P_gf 21 (.ref 289) rfl rfl rfl rfl rfl rfl ?_
      refine P_ld 24 (.int (i32 221)) rfl (fun _ => rfl) ?_
      refine P_ld 25 (.int (i32 v1)) rfl (fun _ => rfl) ?_
      refine P_op 26 (cut (221 * v1)) _ rfl (fun _ => rfl) o_mul ?_
      refine P_ld 28 (.int (i32 s.2)) rfl (fun _ => rfl) ?_
      refine P_op 29 (cut ((cut (221 * v1)) + s.2)) _ rfl (fun _ => rfl) o_add ?_
      refine P_bald2 30 135 (m.2 135) rfl rfl rfl cut_r rfl ?_
      refine P_ifF 53 33 rfl rfl rfl (rE_i (Cn_a hm 135) rfl _) rfl (fun h5 => ?_) (fun h5 => ?_)
      · skip
        exact dg_readsAhead_53 w c N D bb v1 v2 s.2 q1 q2 g4 m hm (jk [(3, s.1)]) Q2 H1 H2
      · skip
        refine P_gf 37 (.ref 290) rfl rfl rfl rfl rfl rfl ?_
        refine P_ld 40 (.int (i32 221)) rfl (fun _ => rfl) ?_
        refine P_ld 41 (.int (i32 v2)) rfl (fun _ => rfl) ?_
        refine P_op 42 (cut (221 * v2)) _ rfl (fun _ => rfl) o_mul ?_
        refine P_ld 44 (.int (i32 s.2)) rfl (fun _ => rfl) ?_
        refine P_op 45 (cut ((cut (221 * v2)) + s.2)) _ rfl (fun _ => rfl) o_add ?_
        refine P_bald2 46 136 (m.2 136) rfl rfl rfl cut_r rfl ?_
        refine P_ifF 53 49 rfl rfl rfl (rE_i (Cn_a hm 136) rfl _) rfl (fun h6 => ?_) (fun h6 => ?_)
        · skip
          exact dg_readsAhead_53 w c N D bb v1 v2 s.2 q1 q2 g4 m hm (jk [(3, s.1)]) Q2 H1 H2
        · skip
          exact dg_readsAhead_49 w c N D bb v1 v2 s.2 q1 q2 g4 m hm (jk [(3, s.1)]) Q2 H1 H2
    · skip
      exact dg_readsAhead_49 w c N D bb v1 v2 s.2 q1 q2 g4 m hm (jk [(3, s.1)]) Q2 H1 H2
def rf_readsAhead (v1 : Int) (v2 : Int) (m : mR) : Option Int :=
  bnd (whl (rfb_readsAhead_5 v1 v2 m) (0, 0)) (fun e7 : Int =>
    some e7)
theorem D_readsAhead (w : wX) (m : mR) (c : Nat → Option am_C) (N D : Nat) (hm : Cn m) (v1 : Int) (v2 : Int) (q1 : R32 v1) (q2 : R32 v2) : PC w D 298 [.ref 189, .int (i32 v1), .int (i32 v2)] (mhp m c, N) (QS (FP1 (mhp m c, N)) (rf_readsAhead v1 v2 m)) := by
  refine Pc_of (fun D bb => ?_) D
  unfold rf_readsAhead
  show PP bb w D pm_298 (0, [(0, .ref 189), (1, .int (i32 v1)), (2, .int (i32 v2))], [], (mhp (mO m [] []) c, N), 0, 0) _
  refine P_ld 1 (.int (i32 0)) rfl (fun _ => rfl) ?_
  refine P_sto 2 [(3, .int (i32 0)), (0, .ref 189), (1, .int (i32 v1)), (2, .int (i32 v2))] rfl (fun _ => rfl) ?_
  refine P_ld 3 (.int (i32 0)) rfl (fun _ => rfl) ?_
  refine P_sto 5 [(4, .int (i32 0)), (3, .int (i32 0)), (0, .ref 189), (1, .int (i32 v1)), (2, .int (i32 v2))] rfl (fun _ => rfl) ?_
  refine P_lv (b := [(0, .ref 189), (1, .int (i32 v1)), (2, .int (i32 v2)), (3, .int (i32 0)), (4, .int (i32 0))]) rfl rfl ⟨rfl, rfl, rfl, rfl, rfl, trivial⟩ ?_
  refine P_bnd ?_
  refine P_whl (fun bb Q2 H1 H2 s9 j9 hs9 => dh_readsAhead_5 w c N D v1 v2 q1 q2 m hm bb Q2 H1 H2 s9 j9 hs9) bb (fun e7 j q8 => ?_) (0, 0) (jk []) ⟨(l32 0 rfl), (l32 0 rfl)⟩
  have q9 := q8
  show PP bb w D pm_298 (61, [(0, .ref 189), (1, .int (i32 (j 1))), (2, .int (i32 (j 2))), (3, .int (i32 e7)), (4, .int (i32 (j 4)))], [], (mhp (mO m [] []) c, N), 0, 0) (QS _ (some e7))
  refine P_ld 62 (.int (i32 e7)) rfl (fun _ => rfl) ?_
  exact P_rp1 rfl q9
def cs_sharesArray_5 (s : Int × Int) : Prop := R32 s.1 ∧ R32 s.2
def cx_sharesArray_5 : (Int) → Prop := (fun (e : Int) => R32 e)
def hd_sharesArray_5 (c : Nat → Option am_C) (N : Nat) (v1 : Int) (v2 : Int) (m : mR) (s : Int × Int) (j : Nat → Int) : ag_St af_T := (5, [(0, .ref 189), (1, .int (i32 v1)), (2, .int (i32 v2)), (3, .int (i32 s.1)), (4, .int (i32 s.2))], [], (mhp m c, N), 0, 0)
def ex_sharesArray_5 (c : Nat → Option am_C) (N : Nat) (v1 : Int) (v2 : Int) (m : mR) : (Int) → (Nat → Int) → ag_St af_T := (fun (e : Int) (j : Nat → Int) => ((58, [(0, .ref 189), (1, .int (i32 (j 1))), (2, .int (i32 (j 2))), (3, .int (i32 e)), (4, .int (i32 (j 4)))], [], (mhp m c, N), 0, 0) : ag_St af_T))
def rfl_sharesArray_51 (v1 : Int) (v2 : Int) (v4 : Int) (u0 : Int) (m : mR) : Option (Sum (Int × Int) (Int)) :=
  some (.inl (u0, cut (v4 + 1)))
theorem dg_sharesArray_51 (w : wX) (c : Nat → Option am_C) (N D : Nat) (bb : Nat) (v1 : Int) (v2 : Int) (v4 : Int) (u0 : Int) (q1 : R32 v1) (q2 : R32 v2) (q4 : R32 v4) (r0 : R32 u0) (m : mR) (hm : Cn m) (j : Nat → Int) (Q2 : Sum (Int × Int) (Int) → ag_Re af_T → Prop) (H1 : ∀ s j, cs_sharesArray_5 s → PP bb w D pm_299 (hd_sharesArray_5 c N v1 v2 m s j) (Q2 (.inl s))) (H2 : ∀ x j, cx_sharesArray_5 x → PP bb w D pm_299 (ex_sharesArray_5 c N v1 v2 m x j) (Q2 (.inr x))) : PP bb w D pm_299 (51, [(0, .ref 189), (1, .int (i32 v1)), (2, .int (i32 v2)), (3, .int (i32 (j 3))), (4, .int (i32 v4))], [.int (i32 u0)], (mhp m c, N), 0, 0) (QS Q2 (rfl_sharesArray_51 v1 v2 v4 u0 m)) := by
  unfold rfl_sharesArray_51
  show PP bb w D pm_299 (51, [(0, .ref 189), (1, .int (i32 v1)), (2, .int (i32 v2)), (3, .int (i32 (j 3))), (4, .int (i32 v4))], [.int (i32 u0)], (mhp (mO m [] []) c, N), 0, 0) _
  refine P_sto 52 [(3, .int (i32 u0)), (0, .ref 189), (1, .int (i32 v1)), (2, .int (i32 v2)), (4, .int (i32 v4))] rfl (fun _ => rfl) ?_
  refine P_inc 55 [(4, .int (i32 (cut (v4 + 1)))), (3, .int (i32 u0)), (0, .ref 189), (1, .int (i32 v1)), (2, .int (i32 v2))] rfl rfl (by decide) rfl rfl ?_
  refine P_goto 5 rfl (fun _ => rfl) ?_
  refine P_some ?_
  refine P_lv (b := [(0, .ref 189), (1, .int (i32 v1)), (2, .int (i32 v2)), (3, .int (i32 u0)), (4, .int (i32 (cut (v4 + 1))))]) rfl rfl ⟨rfl, rfl, rfl, rfl, rfl, trivial⟩ ?_
  exact H1 (u0, cut (v4 + 1)) (jk []) ⟨r0, cut_r⟩
def rfl_sharesArray_50 (v1 : Int) (v2 : Int) (v4 : Int) (m : mR) : Option (Sum (Int × Int) (Int)) :=
  rfl_sharesArray_51 v1 v2 v4 0 m
theorem dg_sharesArray_50 (w : wX) (c : Nat → Option am_C) (N D : Nat) (bb : Nat) (v1 : Int) (v2 : Int) (v4 : Int) (q1 : R32 v1) (q2 : R32 v2) (q4 : R32 v4) (m : mR) (hm : Cn m) (j : Nat → Int) (Q2 : Sum (Int × Int) (Int) → ag_Re af_T → Prop) (H1 : ∀ s j, cs_sharesArray_5 s → PP bb w D pm_299 (hd_sharesArray_5 c N v1 v2 m s j) (Q2 (.inl s))) (H2 : ∀ x j, cx_sharesArray_5 x → PP bb w D pm_299 (ex_sharesArray_5 c N v1 v2 m x j) (Q2 (.inr x))) : PP bb w D pm_299 (50, [(0, .ref 189), (1, .int (i32 v1)), (2, .int (i32 v2)), (3, .int (i32 (j 3))), (4, .int (i32 v4))], [], (mhp m c, N), 0, 0) (QS Q2 (rfl_sharesArray_50 v1 v2 v4 m)) := by
  unfold rfl_sharesArray_50
  show PP bb w D pm_299 (50, [(0, .ref 189), (1, .int (i32 v1)), (2, .int (i32 v2)), (3, .int (i32 (j 3))), (4, .int (i32 v4))], [], (mhp (mO m [] []) c, N), 0, 0) _
  refine P_ld 51 (.int (i32 0)) rfl (fun _ => rfl) ?_
  exact dg_sharesArray_51 w c N D bb v1 v2 v4 0 q1 q2 q4 (l32 0 rfl) m hm (jk [(3, j 3)]) Q2 H1 H2
def rfl_sharesArray_46 (v1 : Int) (v2 : Int) (v4 : Int) (m : mR) : Option (Sum (Int × Int) (Int)) :=
  rfl_sharesArray_51 v1 v2 v4 1 m
theorem dg_sharesArray_46 (w : wX) (c : Nat → Option am_C) (N D : Nat) (bb : Nat) (v1 : Int) (v2 : Int) (v4 : Int) (q1 : R32 v1) (q2 : R32 v2) (q4 : R32 v4) (m : mR) (hm : Cn m) (j : Nat → Int) (Q2 : Sum (Int × Int) (Int) → ag_Re af_T → Prop) (H1 : ∀ s j, cs_sharesArray_5 s → PP bb w D pm_299 (hd_sharesArray_5 c N v1 v2 m s j) (Q2 (.inl s))) (H2 : ∀ x j, cx_sharesArray_5 x → PP bb w D pm_299 (ex_sharesArray_5 c N v1 v2 m x j) (Q2 (.inr x))) : PP bb w D pm_299 (46, [(0, .ref 189), (1, .int (i32 v1)), (2, .int (i32 v2)), (3, .int (i32 (j 3))), (4, .int (i32 v4))], [], (mhp m c, N), 0, 0) (QS Q2 (rfl_sharesArray_46 v1 v2 v4 m)) := by
  unfold rfl_sharesArray_46
  show PP bb w D pm_299 (46, [(0, .ref 189), (1, .int (i32 v1)), (2, .int (i32 v2)), (3, .int (i32 (j 3))), (4, .int (i32 v4))], [], (mhp (mO m [] []) c, N), 0, 0) _
  refine P_ld 47 (.int (i32 1)) rfl (fun _ => rfl) ?_
  refine P_goto 51 rfl (fun _ => rfl) ?_
  exact dg_sharesArray_51 w c N D bb v1 v2 v4 1 q1 q2 q4 (l32 1 rfl) m hm (jk [(3, j 3)]) Q2 H1 H2
def rfb_sharesArray_5 (v1 : Int) (v2 : Int) (m : mR) (s : Int × Int) : Option (Sum (Int × Int) (Int)) :=
  if (8 : Int) ≤ s.2 then
    some (.inr s.1)
  else
    if s.1 = 0 then
      if (m.2 137) (cut ((cut (8 * v1)) + s.2)) = 0 then
        rfl_sharesArray_50 v1 v2 s.2 m
      else
        if (m.2 137) (cut ((cut (8 * v2)) + s.2)) = 0 then
          rfl_sharesArray_50 v1 v2 s.2 m
        else
          rfl_sharesArray_46 v1 v2 s.2 m
    else
      rfl_sharesArray_46 v1 v2 s.2 m
theorem dh_sharesArray_5 (w : wX) (c : Nat → Option am_C) (N D : Nat) (v1 : Int) (v2 : Int) (q1 : R32 v1) (q2 : R32 v2) (m : mR) (hm : Cn m) (bb : Nat) (Q2 : Sum (Int × Int) (Int) → ag_Re af_T → Prop) (H1 : ∀ s j, cs_sharesArray_5 s → PP bb w D pm_299 (hd_sharesArray_5 c N v1 v2 m s j) (Q2 (.inl s))) (H2 : ∀ x j, cx_sharesArray_5 x → PP bb w D pm_299 (ex_sharesArray_5 c N v1 v2 m x j) (Q2 (.inr x))) (s : Int × Int) (j : Nat → Int) (hs : cs_sharesArray_5 s) : PP (bb + 1) w D pm_299 (hd_sharesArray_5 c N v1 v2 m s j) (QS Q2 (rfb_sharesArray_5 v1 v2 m s)) := by
  obtain ⟨g3, g4⟩ := hs
  unfold rfb_sharesArray_5
  show PP (bb + 1) w D pm_299 (5, [(0, .ref 189), (1, .int (i32 v1)), (2, .int (i32 v2)), (3, .int (i32 s.1)), (4, .int (i32 s.2))], [], (mhp (mO m [] []) c, N), 0, 0) _
  refine P1_ld 7 (.int (i32 s.2)) rfl (fun _ => rfl) ?_
  refine P_ld 9 (.int (i32 8)) rfl (fun _ => rfl) ?_
  refine P_icF 58 12 rfl rfl rfl g4 (l32 8 rfl) rfl (fun h3 => ?_) (fun h3 => ?_)
  · skip
    refine P_some ?_
    exact H2 s.1 (jk [(1, v1), (2, v2), (4, s.2)]) g3
  · skip
    refine P_ld 13 (.int (i32 s.1)) rfl (fun _ => rfl) ?_
    refine P_ifE 46 16 rfl rfl rfl g3 rfl (fun h4 => ?_) (fun h4 => ?_)
    · skip
      refine P_gf 20 (.ref 291) rfl rfl rfl rfl rfl rfl ?_
      refine P_ld 22 (.int (i32 8)) rfl (fun _ => rfl) ?_
      refine P_ld 23 (.int (i32 v1)) rfl (fun _ => rfl) ?_
      refine P_op 24 (cut (8 * v1)) _ rfl (fun _ => rfl) o_mul ?_
      refine P_ld 26 (.int (i32 s.2)) rfl (fun _ => rfl) ?_
      refine P_op 27 (cut ((cut (8 * v1)) + s.2)) _ rfl (fun _ => rfl) o_add ?_
      refine P_bald2 28 137 (m.2 137) rfl rfl rfl cut_r rfl ?_
      refine P_ifF 50 31 rfl rfl rfl (rE_i (Cn_a hm 137) rfl _) rfl (fun h5 => ?_) (fun h5 => ?_)
      · skip
        exact dg_sharesArray_50 w c N D bb v1 v2 s.2 q1 q2 g4 m hm (jk [(3, s.1)]) Q2 H1 H2
      · skip
        refine P_gf 35 (.ref 291) rfl rfl rfl rfl rfl rfl ?_
        refine P_ld 37 (.int (i32 8)) rfl (fun _ => rfl) ?_
        refine P_ld 38 (.int (i32 v2)) rfl (fun _ => rfl) ?_
        refine P_op 39 (cut (8 * v2)) _ rfl (fun _ => rfl) o_mul ?_
        refine P_ld 41 (.int (i32 s.2)) rfl (fun _ => rfl) ?_
        refine P_op 42 (cut ((cut (8 * v2)) + s.2)) _ rfl (fun _ => rfl) o_add ?_
        refine P_bald2 43 137 (m.2 137) rfl rfl rfl cut_r rfl ?_
        refine P_ifF 50 46 rfl rfl rfl (rE_i (Cn_a hm 137) rfl _) rfl (fun h6 => ?_) (fun h6 => ?_)
        · skip
          exact dg_sharesArray_50 w c N D bb v1 v2 s.2 q1 q2 g4 m hm (jk [(3, s.1)]) Q2 H1 H2
        · skip
          exact dg_sharesArray_46 w c N D bb v1 v2 s.2 q1 q2 g4 m hm (jk [(3, s.1)]) Q2 H1 H2
    · skip
      exact dg_sharesArray_46 w c N D bb v1 v2 s.2 q1 q2 g4 m hm (jk [(3, s.1)]) Q2 H1 H2
def rf_sharesArray (v1 : Int) (v2 : Int) (m : mR) : Option Int :=
  bnd (whl (rfb_sharesArray_5 v1 v2 m) (0, 0)) (fun e7 : Int =>
    some e7)
theorem D_sharesArray (w : wX) (m : mR) (c : Nat → Option am_C) (N D : Nat) (hm : Cn m) (v1 : Int) (v2 : Int) (q1 : R32 v1) (q2 : R32 v2) : PC w D 299 [.ref 189, .int (i32 v1), .int (i32 v2)] (mhp m c, N) (QS (FP1 (mhp m c, N)) (rf_sharesArray v1 v2 m)) := by
  refine Pc_of (fun D bb => ?_) D
  unfold rf_sharesArray
  show PP bb w D pm_299 (0, [(0, .ref 189), (1, .int (i32 v1)), (2, .int (i32 v2))], [], (mhp (mO m [] []) c, N), 0, 0) _
  refine P_ld 1 (.int (i32 0)) rfl (fun _ => rfl) ?_
  refine P_sto 2 [(3, .int (i32 0)), (0, .ref 189), (1, .int (i32 v1)), (2, .int (i32 v2))] rfl (fun _ => rfl) ?_
  refine P_ld 3 (.int (i32 0)) rfl (fun _ => rfl) ?_
  refine P_sto 5 [(4, .int (i32 0)), (3, .int (i32 0)), (0, .ref 189), (1, .int (i32 v1)), (2, .int (i32 v2))] rfl (fun _ => rfl) ?_
  refine P_lv (b := [(0, .ref 189), (1, .int (i32 v1)), (2, .int (i32 v2)), (3, .int (i32 0)), (4, .int (i32 0))]) rfl rfl ⟨rfl, rfl, rfl, rfl, rfl, trivial⟩ ?_
  refine P_bnd ?_
  refine P_whl (fun bb Q2 H1 H2 s9 j9 hs9 => dh_sharesArray_5 w c N D v1 v2 q1 q2 m hm bb Q2 H1 H2 s9 j9 hs9) bb (fun e7 j q8 => ?_) (0, 0) (jk []) ⟨(l32 0 rfl), (l32 0 rfl)⟩
  have q9 := q8
  show PP bb w D pm_299 (58, [(0, .ref 189), (1, .int (i32 (j 1))), (2, .int (i32 (j 2))), (3, .int (i32 e7)), (4, .int (i32 (j 4)))], [], (mhp (mO m [] []) c, N), 0, 0) (QS _ (some e7))
  refine P_ld 59 (.int (i32 e7)) rfl (fun _ => rfl) ?_
  exact P_rp1 rfl q9
def cs_bitsOfParameters_7 (s : Int × Int) : Prop := R32 s.1 ∧ R32 s.2
def cx_bitsOfParameters_7 : (Int) → Prop := (fun (e : Int) => R32 e)
def hd_bitsOfParameters_7 (c : Nat → Option am_C) (N : Nat) (v1 : Int) (v2 : Int) (m : mR) (s : Int × Int) (j : Nat → Int) : ag_St af_T := (7, [(0, .ref 219), (1, .int (i32 v1)), (2, .int (i32 v2)), (3, .int (i32 s.1)), (4, .int (i32 s.2))], [], (mhp m c, N), 0, 0)
def ex_bitsOfParameters_7 (c : Nat → Option am_C) (N : Nat) (v1 : Int) (v2 : Int) (m : mR) : (Int) → (Nat → Int) → ag_St af_T := (fun (e : Int) (j : Nat → Int) => ((30, [(0, .ref 219), (1, .int (i32 (j 1))), (2, .int (i32 (j 2))), (3, .int (i32 e)), (4, .int (i32 (j 4)))], [], (mhp m c, N), 0, 0) : ag_St af_T))
def rfb_bitsOfParameters_7 (v1 : Int) (v2 : Int) (m : mR) (s : Int × Int) : Option (Sum (Int × Int) (Int)) :=
  if cut ((cut (4 * v2)) + v1) ≤ s.2 then
    some (.inr s.1)
  else
    some (.inl (cut (s.1 + ((m.2 49) s.2)), cut (s.2 + 1)))
theorem dh_bitsOfParameters_7 (w : wX) (c : Nat → Option am_C) (N D : Nat) (v1 : Int) (v2 : Int) (q1 : R32 v1) (q2 : R32 v2) (m : mR) (hm : Cn m) (bb : Nat) (Q2 : Sum (Int × Int) (Int) → ag_Re af_T → Prop) (H1 : ∀ s j, cs_bitsOfParameters_7 s → PP bb w D pm_301 (hd_bitsOfParameters_7 c N v1 v2 m s j) (Q2 (.inl s))) (H2 : ∀ x j, cx_bitsOfParameters_7 x → PP bb w D pm_301 (ex_bitsOfParameters_7 c N v1 v2 m x j) (Q2 (.inr x))) (s : Int × Int) (j : Nat → Int) (hs : cs_bitsOfParameters_7 s) : PP (bb + 1) w D pm_301 (hd_bitsOfParameters_7 c N v1 v2 m s j) (QS Q2 (rfb_bitsOfParameters_7 v1 v2 m s)) := by
  obtain ⟨g3, g4⟩ := hs
  unfold rfb_bitsOfParameters_7
  show PP (bb + 1) w D pm_301 (7, [(0, .ref 219), (1, .int (i32 v1)), (2, .int (i32 v2)), (3, .int (i32 s.1)), (4, .int (i32 s.2))], [], (mhp (mO m [] []) c, N), 0, 0) _
  refine P1_ld 9 (.int (i32 s.2)) rfl (fun _ => rfl) ?_
  refine P_ld 10 (.int (i32 4)) rfl (fun _ => rfl) ?_
  refine P_ld 11 (.int (i32 v2)) rfl (fun _ => rfl) ?_
  refine P_op 12 (cut (4 * v2)) _ rfl (fun _ => rfl) o_mul ?_
  refine P_ld 13 (.int (i32 v1)) rfl (fun _ => rfl) ?_
  refine P_op 14 (cut ((cut (4 * v2)) + v1)) _ rfl (fun _ => rfl) o_add ?_
  refine P_icF 30 17 rfl rfl rfl g4 cut_r rfl (fun h3 => ?_) (fun h3 => ?_)
  · skip
    refine P_some ?_
    exact H2 s.1 (jk [(1, v1), (2, v2), (4, s.2)]) g3
  · skip
    refine P_ld 18 (.int (i32 s.1)) rfl (fun _ => rfl) ?_
    refine P_ld 19 (.ref 219) rfl (fun _ => rfl) ?_
    refine P_ld 21 (.int (i32 s.2)) rfl (fun _ => rfl) ?_
    refine P_iald2 22 49 (m.2 49) rfl rfl rfl g4 rfl ?_
    refine P_op 23 (cut (s.1 + ((m.2 49) s.2))) _ rfl (fun _ => rfl) o_add ?_
    refine P_sto 24 [(3, .int (i32 (cut (s.1 + ((m.2 49) s.2))))), (0, .ref 219), (1, .int (i32 v1)), (2, .int (i32 v2)), (4, .int (i32 s.2))] rfl (fun _ => rfl) ?_
    refine P_inc 27 [(4, .int (i32 (cut (s.2 + 1)))), (3, .int (i32 (cut (s.1 + ((m.2 49) s.2))))), (0, .ref 219), (1, .int (i32 v1)), (2, .int (i32 v2))] rfl rfl (by decide) rfl rfl ?_
    refine P_goto 7 rfl (fun _ => rfl) ?_
    refine P_some ?_
    refine P_lv (b := [(0, .ref 219), (1, .int (i32 v1)), (2, .int (i32 v2)), (3, .int (i32 (cut (s.1 + ((m.2 49) s.2))))), (4, .int (i32 (cut (s.2 + 1))))]) rfl rfl ⟨rfl, rfl, rfl, rfl, rfl, trivial⟩ ?_
    exact H1 (cut (s.1 + ((m.2 49) s.2)), cut (s.2 + 1)) (jk []) ⟨cut_r, cut_r⟩
def rf_bitsOfParameters (v1 : Int) (v2 : Int) (m : mR) : Option Int :=
  bnd (whl (rfb_bitsOfParameters_7 v1 v2 m) (0, cut (4 * v2))) (fun e4 : Int =>
    some e4)
theorem D_bitsOfParameters (w : wX) (m : mR) (c : Nat → Option am_C) (N D : Nat) (hm : Cn m) (v1 : Int) (v2 : Int) (q1 : R32 v1) (q2 : R32 v2) : PC w D 301 [.ref 219, .int (i32 v1), .int (i32 v2)] (mhp m c, N) (QS (FP1 (mhp m c, N)) (rf_bitsOfParameters v1 v2 m)) := by
  refine Pc_of (fun D bb => ?_) D
  unfold rf_bitsOfParameters
  show PP bb w D pm_301 (0, [(0, .ref 219), (1, .int (i32 v1)), (2, .int (i32 v2))], [], (mhp (mO m [] []) c, N), 0, 0) _
  refine P_ld 1 (.int (i32 0)) rfl (fun _ => rfl) ?_
  refine P_sto 2 [(3, .int (i32 0)), (0, .ref 219), (1, .int (i32 v1)), (2, .int (i32 v2))] rfl (fun _ => rfl) ?_
  refine P_ld 3 (.int (i32 4)) rfl (fun _ => rfl) ?_
  refine P_ld 4 (.int (i32 v2)) rfl (fun _ => rfl) ?_
  refine P_op 5 (cut (4 * v2)) _ rfl (fun _ => rfl) o_mul ?_
  refine P_sto 7 [(4, .int (i32 (cut (4 * v2)))), (3, .int (i32 0)), (0, .ref 219), (1, .int (i32 v1)), (2, .int (i32 v2))] rfl (fun _ => rfl) ?_
  refine P_lv (b := [(0, .ref 219), (1, .int (i32 v1)), (2, .int (i32 v2)), (3, .int (i32 0)), (4, .int (i32 (cut (4 * v2))))]) rfl rfl ⟨rfl, rfl, rfl, rfl, rfl, trivial⟩ ?_
  refine P_bnd ?_
  refine P_whl (fun bb Q2 H1 H2 s9 j9 hs9 => dh_bitsOfParameters_7 w c N D v1 v2 q1 q2 m hm bb Q2 H1 H2 s9 j9 hs9) bb (fun e4 j q5 => ?_) (0, cut (4 * v2)) (jk []) ⟨(l32 0 rfl), cut_r⟩
  have q6 := q5
  show PP bb w D pm_301 (30, [(0, .ref 219), (1, .int (i32 (j 1))), (2, .int (i32 (j 2))), (3, .int (i32 e4)), (4, .int (i32 (j 4)))], [], (mhp (mO m [] []) c, N), 0, 0) (QS _ (some e4))
  refine P_ld 31 (.int (i32 e4)) rfl (fun _ => rfl) ?_
  exact P_rp1 rfl q6
end X26O
