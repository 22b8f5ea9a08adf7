noncomputable section X26J
def cs_takeList_9 (s : Int × mR) : Prop := R32 s.1 ∧ Cn s.2
def cx_takeList_9 : (mR) → Prop := (fun (e : mR) => Cn e)
def hd_takeList_9 (c : Nat → Option am_C) (N : Nat) (v1 : Int) (s : Int × mR) (j : Nat → Int) : ag_St af_T := (9, [(0, .ref 189), (1, .int (i32 v1)), (2, .int (i32 s.1))], [], (mhp s.2 c, N), 0, 0)
def ex_takeList_9 (c : Nat → Option am_C) (N : Nat) (v1 : Int) : (mR) → (Nat → Int) → ag_St af_T := (fun (e : mR) (j : Nat → Int) => ((28, [(0, .ref 189), (1, .int (i32 v1)), (2, .int (i32 (j 2)))], [], (mhp e c, N), 0, 0) : ag_St af_T))
def cs_takeList_30 (s : Int × mR) : Prop := R32 s.1 ∧ Cn s.2
def cx_takeList_30 : (Sum (mR) (mR)) → Prop := (sel (fun (e : mR) => Cn e) (fun (e : mR) => Cn e))
def hd_takeList_30 (c : Nat → Option am_C) (N : Nat) (v1 : Int) (s : Int × mR) (j : Nat → Int) : ag_St af_T := (30, [(0, .ref 189), (1, .int (i32 v1)), (2, .int (i32 s.1)), (3, .int (i32 (j 3))), (4, .int (i32 (j 4)))], [], (mhp s.2 c, N), 0, 0)
def ex_takeList_30 (c : Nat → Option am_C) (N : Nat) (v1 : Int) : (Sum (mR) (mR)) → (Nat → Int) → ag_St af_T := (sel (fun (e : mR) (j : Nat → Int) => ((113, [(0, .ref 189), (1, .int (i32 (j 1))), (2, .int (i32 (j 2))), (3, .int (i32 (j 3))), (4, .int (i32 (j 4)))], [], (mhp e c, N), 0, 0) : ag_St af_T)) (fun (e : mR) (j : Nat → Int) => ((183, [(0, .ref 189), (1, .int (i32 (j 1))), (2, .int (i32 (j 2))), (3, .int (i32 (j 3))), (4, .int (i32 (j 4)))], [], (mhp e c, N), 0, 0) : ag_St af_T)))
def rfl_takeList_183 (m : mR) : Option (Int × mR) :=
  bnd (rf_need 59 m) fun y4 =>
  some (0, y4.2)
theorem dg_takeList_183 (w : wX) (c : Nat → Option am_C) (N D : Nat) (bb : Nat) (m : mR) (hm : Cn m) (j : Nat → Int) : PP bb w D pm_276 (183, [(0, .ref 189), (1, .int (i32 (j 1))), (2, .int (i32 (j 2))), (3, .int (i32 (j 3))), (4, .int (i32 (j 4)))], [], (mhp m c, N), 0, 0) (QS (FR0 c N) (rfl_takeList_183 m)) := by
  unfold rfl_takeList_183
  show PP bb w D pm_276 (183, [(0, .ref 189), (1, .int (i32 (j 1))), (2, .int (i32 (j 2))), (3, .int (i32 (j 3))), (4, .int (i32 (j 4)))], [], (mhp (mO m [] []) c, N), 0, 0) _
  refine P_ld 184 (.ref 189) rfl (fun _ => rfl) ?_
  refine P_ld 186 (.int (i32 59)) rfl (fun _ => rfl) ?_
  refine P_ca0 189 232 [.ref 189, .int (i32 59)] [] rfl (fun _ => rfl) rfl (D_need w m c N D hm 59 (l32 59 rfl)) (fun y4 n6 => ?_)
  exact P_re0 rfl rfl n6
def rfl_takeList_180 (v1 : Int) (v2 : Int) (m : mR) : Option (Sum (Int × mR) (Sum (mR) (mR))) :=
  some (.inl (v2, m))
theorem dg_takeList_180 (w : wX) (c : Nat → Option am_C) (N D : Nat) (bb : Nat) (v1 : Int) (v2 : Int) (q1 : R32 v1) (q2 : R32 v2) (m : mR) (hm : Cn m) (j : Nat → Int) (Q2 : Sum (Int × mR) (Sum (mR) (mR)) → ag_Re af_T → Prop) (H1 : ∀ s j, cs_takeList_30 s → PP bb w D pm_276 (hd_takeList_30 c N v1 s j) (Q2 (.inl s))) (H2 : ∀ x j, cx_takeList_30 x → PP bb w D pm_276 (ex_takeList_30 c N v1 x j) (Q2 (.inr x))) : PP bb w D pm_276 (180, [(0, .ref 189), (1, .int (i32 v1)), (2, .int (i32 v2)), (3, .int (i32 (j 3))), (4, .int (i32 (j 4)))], [], (mhp m c, N), 0, 0) (QS Q2 (rfl_takeList_180 v1 v2 m)) := by
  unfold rfl_takeList_180
  show PP bb w D pm_276 (180, [(0, .ref 189), (1, .int (i32 v1)), (2, .int (i32 v2)), (3, .int (i32 (j 3))), (4, .int (i32 (j 4)))], [], (mhp (mO m [] []) c, N), 0, 0) _
  refine P_goto 30 rfl (fun _ => rfl) ?_
  refine P_some ?_
  exact H1 (v2, m) (jk [(3, j 3), (4, j 4)]) ⟨q2, hm⟩
def rfl_takeList_171 (v1 : Int) (u0 : Int) (m : mR) : Option (Sum (Int × mR) (Sum (mR) (mR))) :=
  if u0 = 0 then
    rfl_takeList_180 v1 u0 m
  else
    bnd (rf_next m) fun y8 =>
    rfl_takeList_180 v1 u0 y8.2
theorem dg_takeList_171 (w : wX) (c : Nat → Option am_C) (N D : Nat) (bb : Nat) (v1 : Int) (u0 : Int) (q1 : R32 v1) (r0 : R32 u0) (m : mR) (hm : Cn m) (j : Nat → Int) (Q2 : Sum (Int × mR) (Sum (mR) (mR)) → ag_Re af_T → Prop) (H1 : ∀ s j, cs_takeList_30 s → PP bb w D pm_276 (hd_takeList_30 c N v1 s j) (Q2 (.inl s))) (H2 : ∀ x j, cx_takeList_30 x → PP bb w D pm_276 (ex_takeList_30 c N v1 x j) (Q2 (.inr x))) : PP bb w D pm_276 (171, [(0, .ref 189), (1, .int (i32 v1)), (2, .int (i32 (j 2))), (3, .int (i32 (j 3))), (4, .int (i32 (j 4)))], [.int (i32 u0)], (mhp m c, N), 0, 0) (QS Q2 (rfl_takeList_171 v1 u0 m)) := by
  unfold rfl_takeList_171
  show PP bb w D pm_276 (171, [(0, .ref 189), (1, .int (i32 v1)), (2, .int (i32 (j 2))), (3, .int (i32 (j 3))), (4, .int (i32 (j 4)))], [.int (i32 u0)], (mhp (mO m [] []) c, N), 0, 0) _
  refine P_sto 172 [(2, .int (i32 u0)), (0, .ref 189), (1, .int (i32 v1)), (3, .int (i32 (j 3))), (4, .int (i32 (j 4)))] rfl (fun _ => rfl) ?_
  refine P_ld 173 (.int (i32 u0)) rfl (fun _ => rfl) ?_
  refine P_ifF 180 176 rfl rfl rfl r0 rfl (fun h7 => ?_) (fun h7 => ?_)
  · skip
    refine P_lv (b := [(0, .ref 189), (1, .int (i32 v1)), (2, .int (i32 u0)), (3, .int (i32 (j 3))), (4, .int (i32 (j 4)))]) rfl rfl ⟨rfl, rfl, rfl, rfl, rfl, trivial⟩ ?_
    exact dg_takeList_180 w c N D bb v1 u0 q1 r0 m hm (jk [(3, j 3), (4, j 4)]) Q2 H1 H2
  · skip
    refine P_ld 177 (.ref 189) rfl (fun _ => rfl) ?_
    refine P_ca0 180 212 [.ref 189] [] rfl (fun _ => rfl) rfl (D_next w m c N D hm) (fun y8 n10 => ?_)
    refine P_lv (b := [(0, .ref 189), (1, .int (i32 v1)), (2, .int (i32 u0)), (3, .int (i32 (j 3))), (4, .int (i32 (j 4)))]) rfl rfl ⟨rfl, rfl, rfl, rfl, rfl, trivial⟩ ?_
    exact dg_takeList_180 w c N D bb v1 u0 q1 r0 y8.2 n10 (jk [(3, j 3), (4, j 4)]) Q2 H1 H2
def rfl_takeList_170 (v1 : Int) (m : mR) : Option (Sum (Int × mR) (Sum (mR) (mR))) :=
  rfl_takeList_171 v1 0 m
theorem dg_takeList_170 (w : wX) (c : Nat → Option am_C) (N D : Nat) (bb : Nat) (v1 : Int) (q1 : R32 v1) (m : mR) (hm : Cn m) (j : Nat → Int) (Q2 : Sum (Int × mR) (Sum (mR) (mR)) → ag_Re af_T → Prop) (H1 : ∀ s j, cs_takeList_30 s → PP bb w D pm_276 (hd_takeList_30 c N v1 s j) (Q2 (.inl s))) (H2 : ∀ x j, cx_takeList_30 x → PP bb w D pm_276 (ex_takeList_30 c N v1 x j) (Q2 (.inr x))) : PP bb w D pm_276 (170, [(0, .ref 189), (1, .int (i32 v1)), (2, .int (i32 (j 2))), (3, .int (i32 (j 3))), (4, .int (i32 (j 4)))], [], (mhp m c, N), 0, 0) (QS Q2 (rfl_takeList_170 v1 m)) := by
  unfold rfl_takeList_170
  show PP bb w D pm_276 (170, [(0, .ref 189), (1, .int (i32 v1)), (2, .int (i32 (j 2))), (3, .int (i32 (j 3))), (4, .int (i32 (j 4)))], [], (mhp (mO m [] []) c, N), 0, 0) _
  refine P_ld 171 (.int (i32 0)) rfl (fun _ => rfl) ?_
  exact dg_takeList_171 w c N D bb v1 0 q1 (l32 0 rfl) m hm (jk [(2, j 2), (3, j 3), (4, j 4)]) Q2 H1 H2
def rfl_takeList_106 (v1 : Int) (v4 : Int) (m : mR) : Option (Sum (Int × mR) (Sum (mR) (mR))) :=
  if m.1 10 ≤ 0 then
    if m.1 10 = 0 then
      if m.1 7 = 44 then
        rfl_takeList_171 v1 1 (mO m [] [(53, upI (m.2 53) v1 (cut (((m.2 53) v1) + 1))), (114, upI (m.2 114) (cut ((cut (8 * v1)) + ((m.2 53) v1))) v4), (116, upI (m.2 116) v4 (nar1 1))])
      else
        rfl_takeList_170 v1 (mO m [] [(53, upI (m.2 53) v1 (cut (((m.2 53) v1) + 1))), (114, upI (m.2 114) (cut ((cut (8 * v1)) + ((m.2 53) v1))) v4), (116, upI (m.2 116) v4 (nar1 1))])
    else
      rfl_takeList_170 v1 (mO m [] [(53, upI (m.2 53) v1 (cut (((m.2 53) v1) + 1))), (114, upI (m.2 114) (cut ((cut (8 * v1)) + ((m.2 53) v1))) v4), (116, upI (m.2 116) v4 (nar1 1))])
  else
    some (.inr (.inl m))
theorem dg_takeList_106 (w : wX) (c : Nat → Option am_C) (N D : Nat) (bb : Nat) (v1 : Int) (v4 : Int) (q1 : R32 v1) (q4 : R32 v4) (m : mR) (hm : Cn m) (j : Nat → Int) (Q2 : Sum (Int × mR) (Sum (mR) (mR)) → ag_Re af_T → Prop) (H1 : ∀ s j, cs_takeList_30 s → PP bb w D pm_276 (hd_takeList_30 c N v1 s j) (Q2 (.inl s))) (H2 : ∀ x j, cx_takeList_30 x → PP bb w D pm_276 (ex_takeList_30 c N v1 x j) (Q2 (.inr x))) : PP bb w D pm_276 (106, [(0, .ref 189), (1, .int (i32 v1)), (2, .int (i32 (j 2))), (3, .int (i32 (j 3))), (4, .int (i32 v4))], [], (mhp m c, N), 0, 0) (QS Q2 (rfl_takeList_106 v1 v4 m)) := by
  unfold rfl_takeList_106
  show PP bb w D pm_276 (106, [(0, .ref 189), (1, .int (i32 v1)), (2, .int (i32 (j 2))), (3, .int (i32 (j 3))), (4, .int (i32 v4))], [], (mhp (mO m [] []) c, N), 0, 0) _
  refine P_gf 110 (.int (i32 (m.1 10))) rfl rfl rfl rfl rfl rfl ?_
  refine P_ifF 114 113 rfl rfl rfl (Cn_i hm 10 rfl) rfl (fun h11 => ?_) (fun h11 => ?_)
  · skip
    refine P_gf 118 (.ref 276) rfl rfl rfl rfl rfl rfl ?_
    refine P_ld 120 (.int (i32 v4)) rfl (fun _ => rfl) ?_
    refine P_ld 121 (.int (i32 1)) rfl (fun _ => rfl) ?_
    refine P_bast2 (a' := [(116, upI (m.2 116) v4 (nar1 1))]) 122 116 (m.2 116) rfl rfl rfl q4 rfl rfl ?_
    refine P_gf 126 (.ref 274) rfl rfl rfl rfl rfl rfl ?_
    refine P_ld 128 (.int (i32 8)) rfl (fun _ => rfl) ?_
    refine P_ld 129 (.int (i32 v1)) rfl (fun _ => rfl) ?_
    refine P_op 130 (cut (8 * v1)) _ rfl (fun _ => rfl) o_mul ?_
    refine P_gf 134 (.ref 223) rfl rfl rfl rfl rfl rfl ?_
    refine P_ld 135 (.int (i32 v1)) rfl (fun _ => rfl) ?_
    refine P_iald2 136 53 (m.2 53) rfl rfl rfl q1 rfl ?_
    refine P_op 137 (cut ((cut (8 * v1)) + ((m.2 53) v1))) _ rfl (fun _ => rfl) o_add ?_
    refine P_ld 139 (.int (i32 v4)) rfl (fun _ => rfl) ?_
    refine P_iast2 (a' := [(114, upI (m.2 114) (cut ((cut (8 * v1)) + ((m.2 53) v1))) v4), (116, upI (m.2 116) v4 (nar1 1))]) 140 114 (m.2 114) rfl rfl rfl cut_r rfl rfl ?_
    refine P_gf 144 (.ref 223) rfl rfl rfl rfl rfl rfl ?_
    refine P_ld 145 (.int (i32 v1)) rfl (fun _ => rfl) ?_
    refine P_dup2 146 rfl (fun _ => rfl) ?_
    refine P_iald2 147 53 (m.2 53) rfl rfl rfl q1 rfl ?_
    refine P_ld 148 (.int (i32 1)) rfl (fun _ => rfl) ?_
    refine P_op 149 (cut (((m.2 53) v1) + 1)) _ rfl (fun _ => rfl) o_add ?_
    refine P_iast2 (a' := [(53, upI (m.2 53) v1 (cut (((m.2 53) v1) + 1))), (114, upI (m.2 114) (cut ((cut (8 * v1)) + ((m.2 53) v1))) v4), (116, upI (m.2 116) v4 (nar1 1))]) 150 53 (m.2 53) rfl rfl rfl q1 rfl rfl ?_
    refine P_gf 154 (.int (i32 (m.1 10))) rfl rfl rfl rfl rfl rfl ?_
    refine P_ifE 170 157 rfl rfl rfl (Cn_i hm 10 rfl) rfl (fun h12 => ?_) (fun h12 => ?_)
    · skip
      refine P_gf 161 (.int (i32 (m.1 7))) rfl rfl rfl rfl rfl rfl ?_
      refine P_ld 163 (.int (i32 44)) rfl (fun _ => rfl) ?_
      refine P_icE 170 166 rfl rfl rfl (Cn_i hm 7 rfl) (l32 44 rfl) rfl (fun h13 => ?_) (fun h13 => ?_)
      · skip
        refine P_ld 167 (.int (i32 1)) rfl (fun _ => rfl) ?_
        refine P_goto 171 rfl (fun _ => rfl) ?_
        exact dg_takeList_171 w c N D bb v1 1 q1 (l32 1 rfl) (mO m [] [(53, upI (m.2 53) v1 (cut (((m.2 53) v1) + 1))), (114, upI (m.2 114) (cut ((cut (8 * v1)) + ((m.2 53) v1))) v4), (116, upI (m.2 116) v4 (nar1 1))]) (Cn_mO hm trivial ⟨(rE_ui (Cn_a hm 53) rfl cut_r), (rE_ui (Cn_a hm 114) rfl q4), (rE_ui (Cn_a hm 116) rfl t32_r), trivial⟩) (jk [(2, j 2), (3, j 3), (4, v4)]) Q2 H1 H2
      · skip
        exact dg_takeList_170 w c N D bb v1 q1 (mO m [] [(53, upI (m.2 53) v1 (cut (((m.2 53) v1) + 1))), (114, upI (m.2 114) (cut ((cut (8 * v1)) + ((m.2 53) v1))) v4), (116, upI (m.2 116) v4 (nar1 1))]) (Cn_mO hm trivial ⟨(rE_ui (Cn_a hm 53) rfl cut_r), (rE_ui (Cn_a hm 114) rfl q4), (rE_ui (Cn_a hm 116) rfl t32_r), trivial⟩) (jk [(2, j 2), (3, j 3), (4, v4)]) Q2 H1 H2
    · skip
      exact dg_takeList_170 w c N D bb v1 q1 (mO m [] [(53, upI (m.2 53) v1 (cut (((m.2 53) v1) + 1))), (114, upI (m.2 114) (cut ((cut (8 * v1)) + ((m.2 53) v1))) v4), (116, upI (m.2 116) v4 (nar1 1))]) (Cn_mO hm trivial ⟨(rE_ui (Cn_a hm 53) rfl cut_r), (rE_ui (Cn_a hm 114) rfl q4), (rE_ui (Cn_a hm 116) rfl t32_r), trivial⟩) (jk [(2, j 2), (3, j 3), (4, v4)]) Q2 H1 H2
  · skip
    refine P_some ?_
    exact H2 (.inl m) (jk [(1, v1), (2, j 2), (3, j 3), (4, v4)]) hm
def rfl_takeList_80 (v1 : Int) (v3 : Int) (u0 : Int) (m : mR) : Option (Sum (Int × mR) (Sum (mR) (mR))) :=
  if m.1 10 = 0 then
    if (m.2 116) u0 = 0 then
      rfl_takeList_106 v1 u0 m
    else
      bnd (rf_wrong 8 v3 m) fun y16 =>
      rfl_takeList_106 v1 u0 y16.2
  else
    rfl_takeList_106 v1 u0 m
theorem dg_takeList_80 (w : wX) (c : Nat → Option am_C) (N D : Nat) (bb : Nat) (v1 : Int) (v3 : Int) (u0 : Int) (q1 : R32 v1) (q3 : R32 v3) (r0 : R32 u0) (m : mR) (hm : Cn m) (j : Nat → Int) (Q2 : Sum (Int × mR) (Sum (mR) (mR)) → ag_Re af_T → Prop) (H1 : ∀ s j, cs_takeList_30 s → PP bb w D pm_276 (hd_takeList_30 c N v1 s j) (Q2 (.inl s))) (H2 : ∀ x j, cx_takeList_30 x → PP bb w D pm_276 (ex_takeList_30 c N v1 x j) (Q2 (.inr x))) : PP bb w D pm_276 (80, [(0, .ref 189), (1, .int (i32 v1)), (2, .int (i32 (j 2))), (3, .int (i32 v3)), (4, .int (i32 (j 4)))], [.int (i32 u0)], (mhp m c, N), 0, 0) (QS Q2 (rfl_takeList_80 v1 v3 u0 m)) := by
  unfold rfl_takeList_80
  show PP bb w D pm_276 (80, [(0, .ref 189), (1, .int (i32 v1)), (2, .int (i32 (j 2))), (3, .int (i32 v3)), (4, .int (i32 (j 4)))], [.int (i32 u0)], (mhp (mO m [] []) c, N), 0, 0) _
  refine P_sto 82 [(4, .int (i32 u0)), (0, .ref 189), (1, .int (i32 v1)), (2, .int (i32 (j 2))), (3, .int (i32 v3))] rfl (fun _ => rfl) ?_
  refine P_gf 86 (.int (i32 (m.1 10))) rfl rfl rfl rfl rfl rfl ?_
  refine P_ifE 106 89 rfl rfl rfl (Cn_i hm 10 rfl) rfl (fun h14 => ?_) (fun h14 => ?_)
  · skip
    refine P_gf 93 (.ref 276) rfl rfl rfl rfl rfl rfl ?_
    refine P_ld 95 (.int (i32 u0)) rfl (fun _ => rfl) ?_
    refine P_bald2 96 116 (m.2 116) rfl rfl rfl r0 rfl ?_
    refine P_ifF 106 99 rfl rfl rfl (rE_i (Cn_a hm 116) rfl _) rfl (fun h15 => ?_) (fun h15 => ?_)
    · skip
      refine P_lv (b := [(0, .ref 189), (1, .int (i32 v1)), (2, .int (i32 (j 2))), (3, .int (i32 v3)), (4, .int (i32 u0))]) rfl rfl ⟨rfl, rfl, rfl, rfl, rfl, trivial⟩ ?_
      exact dg_takeList_106 w c N D bb v1 u0 q1 r0 m hm (jk [(2, j 2), (3, v3)]) Q2 H1 H2
    · skip
      refine P_ld 100 (.ref 189) rfl (fun _ => rfl) ?_
      refine P_ld 102 (.int (i32 8)) rfl (fun _ => rfl) ?_
      refine P_ld 103 (.int (i32 v3)) rfl (fun _ => rfl) ?_
      refine P_ca0 106 222 [.ref 189, .int (i32 8), .int (i32 v3)] [] rfl (fun _ => rfl) rfl (D_wrong w m c N D hm 8 v3 (l32 8 rfl) q3) (fun y16 n18 => ?_)
      refine P_lv (b := [(0, .ref 189), (1, .int (i32 v1)), (2, .int (i32 (j 2))), (3, .int (i32 v3)), (4, .int (i32 u0))]) rfl rfl ⟨rfl, rfl, rfl, rfl, rfl, trivial⟩ ?_
      exact dg_takeList_106 w c N D bb v1 u0 q1 r0 y16.2 n18 (jk [(2, j 2), (3, v3)]) Q2 H1 H2
  · skip
    refine P_lv (b := [(0, .ref 189), (1, .int (i32 v1)), (2, .int (i32 (j 2))), (3, .int (i32 v3)), (4, .int (i32 u0))]) rfl rfl ⟨rfl, rfl, rfl, rfl, rfl, trivial⟩ ?_
    exact dg_takeList_106 w c N D bb v1 u0 q1 r0 m hm (jk [(2, j 2), (3, v3)]) Q2 H1 H2
def rfl_takeList_69 (v1 : Int) (m : mR) : Option (Sum (Int × mR) (Sum (mR) (mR))) :=
  bnd (rf_oldName 6 m) fun y19 =>
  rfl_takeList_80 v1 (m.1 8) y19.1 y19.2
theorem dg_takeList_69 (w : wX) (c : Nat → Option am_C) (N D : Nat) (bb : Nat) (v1 : Int) (q1 : R32 v1) (m : mR) (hm : Cn m) (j : Nat → Int) (Q2 : Sum (Int × mR) (Sum (mR) (mR)) → ag_Re af_T → Prop) (H1 : ∀ s j, cs_takeList_30 s → PP bb w D pm_276 (hd_takeList_30 c N v1 s j) (Q2 (.inl s))) (H2 : ∀ x j, cx_takeList_30 x → PP bb w D pm_276 (ex_takeList_30 c N v1 x j) (Q2 (.inr x))) : PP bb w D pm_276 (69, [(0, .ref 189), (1, .int (i32 v1)), (2, .int (i32 (j 2))), (3, .int (i32 (j 3))), (4, .int (i32 (j 4)))], [], (mhp m c, N), 0, 0) (QS Q2 (rfl_takeList_69 v1 m)) := by
  unfold rfl_takeList_69
  show PP bb w D pm_276 (69, [(0, .ref 189), (1, .int (i32 v1)), (2, .int (i32 (j 2))), (3, .int (i32 (j 3))), (4, .int (i32 (j 4)))], [], (mhp (mO m [] []) c, N), 0, 0) _
  refine P_gf 73 (.int (i32 (m.1 8))) rfl rfl rfl rfl rfl rfl ?_
  refine P_sto 74 [(3, .int (i32 (m.1 8))), (0, .ref 189), (1, .int (i32 v1)), (2, .int (i32 (j 2))), (4, .int (i32 (j 4)))] rfl (fun _ => rfl) ?_
  refine P_ld 75 (.ref 189) rfl (fun _ => rfl) ?_
  refine P_ld 77 (.int (i32 6)) rfl (fun _ => rfl) ?_
  refine P_ca1 80 236 [.ref 189, .int (i32 6)] [] rfl (fun _ => rfl) rfl (D_oldName w m c N D hm 6 (l32 6 rfl)) (fun y19 h20 n21 => ?_)
  refine P_lv (b := [(0, .ref 189), (1, .int (i32 v1)), (2, .int (i32 (j 2))), (3, .int (i32 (m.1 8))), (4, .int (i32 (j 4)))]) rfl rfl ⟨rfl, rfl, rfl, rfl, rfl, trivial⟩ ?_
  exact dg_takeList_80 w c N D bb v1 (m.1 8) y19.1 q1 (Cn_i hm 8 rfl) h20 y19.2 n21 (jk [(2, j 2), (4, j 4)]) Q2 H1 H2
def rfb_takeList_30 (v1 : Int) (s : Int × mR) : Option (Sum (Int × mR) (Sum (mR) (mR))) :=
  if s.1 = 0 then
    some (.inr (.inr s.2))
  else
    if s.2.1 10 = 0 then
      if s.2.1 7 = 1 then
        if (s.2.2 53) v1 = 8 then
          bnd (rf_wrong 4 (s.2.1 8) s.2) fun y28 =>
          rfl_takeList_69 v1 y28.2
        else
          rfl_takeList_69 v1 s.2
      else
        rfl_takeList_69 v1 s.2
    else
      some (.inr (.inr s.2))
theorem dh_takeList_30 (w : wX) (c : Nat → Option am_C) (N D : Nat) (v1 : Int) (q1 : R32 v1) (bb : Nat) (Q2 : Sum (Int × mR) (Sum (mR) (mR)) → ag_Re af_T → Prop) (H1 : ∀ s j, cs_takeList_30 s → PP bb w D pm_276 (hd_takeList_30 c N v1 s j) (Q2 (.inl s))) (H2 : ∀ x j, cx_takeList_30 x → PP bb w D pm_276 (ex_takeList_30 c N v1 x j) (Q2 (.inr x))) (s : Int × mR) (j : Nat → Int) (hs : cs_takeList_30 s) : PP (bb + 1) w D pm_276 (hd_takeList_30 c N v1 s j) (QS Q2 (rfb_takeList_30 v1 s)) := by
  obtain ⟨g2, gm⟩ := hs
  unfold rfb_takeList_30
  show PP (bb + 1) w D pm_276 (30, [(0, .ref 189), (1, .int (i32 v1)), (2, .int (i32 s.1)), (3, .int (i32 (j 3))), (4, .int (i32 (j 4)))], [], (mhp (mO s.2 [] []) c, N), 0, 0) _
  refine P1_ld 31 (.int (i32 s.1)) rfl (fun _ => rfl) ?_
  refine P_ifF 183 34 rfl rfl rfl g2 rfl (fun h24 => ?_) (fun h24 => ?_)
  · skip
    refine P_some ?_
    exact H2 (.inr s.2) (jk [(1, v1), (2, s.1), (3, j 3), (4, j 4)]) gm
  · skip
    refine P_gf 38 (.int (i32 (s.2.1 10))) rfl rfl rfl rfl rfl rfl ?_
    refine P_ifE 183 41 rfl rfl rfl (Cn_i gm 10 rfl) rfl (fun h25 => ?_) (fun h25 => ?_)
    · skip
      refine P_gf 45 (.int (i32 (s.2.1 7))) rfl rfl rfl rfl rfl rfl ?_
      refine P_ld 46 (.int (i32 1)) rfl (fun _ => rfl) ?_
      refine P_icE 69 49 rfl rfl rfl (Cn_i gm 7 rfl) (l32 1 rfl) rfl (fun h26 => ?_) (fun h26 => ?_)
      · skip
        refine P_gf 53 (.ref 223) rfl rfl rfl rfl rfl rfl ?_
        refine P_ld 54 (.int (i32 v1)) rfl (fun _ => rfl) ?_
        refine P_iald2 55 53 (s.2.2 53) rfl rfl rfl q1 rfl ?_
        refine P_ld 57 (.int (i32 8)) rfl (fun _ => rfl) ?_
        refine P_icE 69 60 rfl rfl rfl (rE_i (Cn_a gm 53) rfl _) (l32 8 rfl) rfl (fun h27 => ?_) (fun h27 => ?_)
        · skip
          refine P_ld 61 (.ref 189) rfl (fun _ => rfl) ?_
          refine P_ld 62 (.int (i32 4)) rfl (fun _ => rfl) ?_
          refine P_gf 66 (.int (i32 (s.2.1 8))) rfl rfl rfl rfl rfl rfl ?_
          refine P_ca0 69 222 [.ref 189, .int (i32 4), .int (i32 (s.2.1 8))] [] rfl (fun _ => rfl) rfl (D_wrong w s.2 c N D gm 4 (s.2.1 8) (l32 4 rfl) (Cn_i gm 8 rfl)) (fun y28 n30 => ?_)
          exact dg_takeList_69 w c N D bb v1 q1 y28.2 n30 (jk [(2, s.1), (3, j 3), (4, j 4)]) Q2 H1 H2
        · skip
          exact dg_takeList_69 w c N D bb v1 q1 s.2 gm (jk [(2, s.1), (3, j 3), (4, j 4)]) Q2 H1 H2
      · skip
        exact dg_takeList_69 w c N D bb v1 q1 s.2 gm (jk [(2, s.1), (3, j 3), (4, j 4)]) Q2 H1 H2
    · skip
      refine P_some ?_
      exact H2 (.inr s.2) (jk [(1, v1), (2, s.1), (3, j 3), (4, j 4)]) gm
def rfl_takeList_28 (v1 : Int) (m : mR) : Option (Int × mR) :=
  bnd (whl (rfb_takeList_30 v1) (1, m)) (sel
    (fun e31 : mR =>
      some (0, e31))
    (fun e34 : mR =>
      rfl_takeList_183 e34))
theorem dg_takeList_28 (w : wX) (c : Nat → Option am_C) (N D : Nat) (bb : Nat) (v1 : Int) (q1 : R32 v1) (m : mR) (hm : Cn m) (j : Nat → Int) : PP bb w D pm_276 (28, [(0, .ref 189), (1, .int (i32 v1)), (2, .int (i32 (j 2)))], [], (mhp m c, N), 0, 0) (QS (FR0 c N) (rfl_takeList_28 v1 m)) := by
  unfold rfl_takeList_28
  show PP bb w D pm_276 (28, [(0, .ref 189), (1, .int (i32 v1)), (2, .int (i32 (j 2)))], [], (mhp (mO m [] []) c, N), 0, 0) _
  refine P_ld 29 (.int (i32 1)) rfl (fun _ => rfl) ?_
  refine P_sto 30 [(2, .int (i32 1)), (0, .ref 189), (1, .int (i32 v1))] rfl (fun _ => rfl) ?_
  refine P_lv (b := [(0, .ref 189), (1, .int (i32 v1)), (2, .int (i32 1)), (3, .int (i32 0)), (4, .int (i32 0))]) rfl rfl ⟨rfl, rfl, rfl, trivial⟩ ?_
  refine P_bnd ?_
  refine P_whl (fun bb Q2 H1 H2 s9 j9 hs9 => dh_takeList_30 w c N D v1 q1 bb Q2 H1 H2 s9 j9 hs9) bb (fun x0 j hx0 => ?_) (1, m) (jk []) ⟨(l32 1 rfl), hm⟩
  cases x0 with
  | inl e31 =>
    have q32 := hx0
    have q33 := q32
    show PP bb w D pm_276 (113, [(0, .ref 189), (1, .int (i32 (j 1))), (2, .int (i32 (j 2))), (3, .int (i32 (j 3))), (4, .int (i32 (j 4)))], [], (mhp (mO e31 [] []) c, N), 0, 0) (QS _ (some (0, e31)))
    exact P_re0 rfl rfl q33
  | inr e34 =>
    have q35 := hx0
    have q36 := q35
    show PP bb w D pm_276 (183, [(0, .ref 189), (1, .int (i32 (j 1))), (2, .int (i32 (j 2))), (3, .int (i32 (j 3))), (4, .int (i32 (j 4)))], [], (mhp (mO e34 [] []) c, N), 0, 0) (QS _ (rfl_takeList_183 e34))
    exact dg_takeList_183 w c N D bb e34 q36 (jk [(1, j 1), (2, j 2), (3, j 3), (4, j 4)])
def rfb_takeList_9 (v1 : Int) (s : Int × mR) : Option (Sum (Int × mR) (mR)) :=
  if (16 : Int) ≤ s.1 then
    some (.inr s.2)
  else
    some (.inl (cut (s.1 + 1), (mO s.2 [] [(116, upI (s.2.2 116) s.1 (nar1 0))])))
theorem dh_takeList_9 (w : wX) (c : Nat → Option am_C) (N D : Nat) (v1 : Int) (q1 : R32 v1) (bb : Nat) (Q2 : Sum (Int × mR) (mR) → ag_Re af_T → Prop) (H1 : ∀ s j, cs_takeList_9 s → PP bb w D pm_276 (hd_takeList_9 c N v1 s j) (Q2 (.inl s))) (H2 : ∀ x j, cx_takeList_9 x → PP bb w D pm_276 (ex_takeList_9 c N v1 x j) (Q2 (.inr x))) (s : Int × mR) (j : Nat → Int) (hs : cs_takeList_9 s) : PP (bb + 1) w D pm_276 (hd_takeList_9 c N v1 s j) (QS Q2 (rfb_takeList_9 v1 s)) := by
  obtain ⟨g2, gm⟩ := hs
  unfold rfb_takeList_9
  show PP (bb + 1) w D pm_276 (9, [(0, .ref 189), (1, .int (i32 v1)), (2, .int (i32 s.1))], [], (mhp (mO s.2 [] []) c, N), 0, 0) _
  refine P1_ld 10 (.int (i32 s.1)) rfl (fun _ => rfl) ?_
  refine P_ld 12 (.int (i32 16)) rfl (fun _ => rfl) ?_
  refine P_icF 28 15 rfl rfl rfl g2 (l32 16 rfl) rfl (fun h38 => ?_) (fun h38 => ?_)
  · skip
    refine P_some ?_
    exact H2 s.2 (jk [(2, s.1)]) gm
  · skip
    refine P_gf 19 (.ref 276) rfl rfl rfl rfl rfl rfl ?_
    refine P_ld 20 (.int (i32 s.1)) rfl (fun _ => rfl) ?_
    refine P_ld 21 (.int (i32 0)) rfl (fun _ => rfl) ?_
    refine P_bast2 (a' := [(116, upI (s.2.2 116) s.1 (nar1 0))]) 22 116 (s.2.2 116) rfl rfl rfl g2 rfl rfl ?_
    refine P_inc 25 [(2, .int (i32 (cut (s.1 + 1)))), (0, .ref 189), (1, .int (i32 v1))] rfl rfl (by decide) rfl rfl ?_
    refine P_goto 9 rfl (fun _ => rfl) ?_
    refine P_some ?_
    refine P_lv (b := [(0, .ref 189), (1, .int (i32 v1)), (2, .int (i32 (cut (s.1 + 1))))]) rfl rfl ⟨rfl, rfl, rfl, trivial⟩ ?_
    exact H1 (cut (s.1 + 1), (mO s.2 [] [(116, upI (s.2.2 116) s.1 (nar1 0))])) (jk []) ⟨cut_r, (Cn_mO gm trivial ⟨(rE_ui (Cn_a gm 116) rfl t32_r), trivial⟩)⟩
def rfl_takeList_7 (v1 : Int) (m : mR) : Option (Int × mR) :=
  bnd (whl (rfb_takeList_9 v1) (0, m)) (fun e39 : mR =>
    rfl_takeList_28 v1 e39)
theorem dg_takeList_7 (w : wX) (c : Nat → Option am_C) (N D : Nat) (bb : Nat) (v1 : Int) (q1 : R32 v1) (m : mR) (hm : Cn m) (j : Nat → Int) : PP bb w D pm_276 (7, [(0, .ref 189), (1, .int (i32 v1))], [], (mhp m c, N), 0, 0) (QS (FR0 c N) (rfl_takeList_7 v1 m)) := by
  unfold rfl_takeList_7
  show PP bb w D pm_276 (7, [(0, .ref 189), (1, .int (i32 v1))], [], (mhp (mO m [] []) c, N), 0, 0) _
  refine P_ld 8 (.int (i32 0)) rfl (fun _ => rfl) ?_
  refine P_sto 9 [(2, .int (i32 0)), (0, .ref 189), (1, .int (i32 v1))] rfl (fun _ => rfl) ?_
  refine P_lv (b := [(0, .ref 189), (1, .int (i32 v1)), (2, .int (i32 0))]) rfl rfl ⟨rfl, rfl, rfl, trivial⟩ ?_
  refine P_bnd ?_
  refine P_whl (fun bb Q2 H1 H2 s9 j9 hs9 => dh_takeList_9 w c N D v1 q1 bb Q2 H1 H2 s9 j9 hs9) bb (fun e39 j q40 => ?_) (0, m) (jk []) ⟨(l32 0 rfl), hm⟩
  have q41 := q40
  show PP bb w D pm_276 (28, [(0, .ref 189), (1, .int (i32 v1)), (2, .int (i32 (j 2)))], [], (mhp (mO e39 [] []) c, N), 0, 0) (QS _ (rfl_takeList_28 v1 e39))
  exact dg_takeList_28 w c N D bb v1 q1 e39 q41 (jk [(2, j 2)])
def rf_takeList (v1 : Int) (m : mR) : Option (Int × mR) :=
  bnd (rf_need 315 m) fun y42 =>
  rfl_takeList_7 v1 y42.2
theorem D_takeList (w : wX) (m : mR) (c : Nat → Option am_C) (N D : Nat) (hm : Cn m) (v1 : Int) (q1 : R32 v1) : PC w D 276 [.ref 189, .int (i32 v1)] (mhp m c, N) (QS (FR0 c N) (rf_takeList v1 m)) := by
  refine Pc_of (fun D bb => ?_) D
  unfold rf_takeList
  show PP bb w D pm_276 (0, [(0, .ref 189), (1, .int (i32 v1))], [], (mhp (mO m [] []) c, N), 0, 0) _
  refine P_ld 1 (.ref 189) rfl (fun _ => rfl) ?_
  refine P_ld 4 (.int (i32 315)) rfl (fun _ => rfl) ?_
  refine P_ca0 7 232 [.ref 189, .int (i32 315)] [] rfl (fun _ => rfl) rfl (D_need w m c N D hm 315 (l32 315 rfl)) (fun y42 n44 => ?_)
  exact dg_takeList_7 w c N D bb v1 q1 y42.2 n44 (jk [])
def cs_takeElse_51 (s : Int × Int × mR) : Prop := R32 s.1 ∧ R32 s.2.1 ∧ Cn s.2.2
def cx_takeElse_51 : (Int × mR) → Prop := (fun (e : Int × mR) => R32 e.1 ∧ Cn e.2)
def hd_takeElse_51 (c : Nat → Option am_C) (N : Nat) (v1 : Int) (v2 : Int) (v3 : Int) (s : Int × Int × mR) (j : Nat → Int) : ag_St af_T := (51, [(0, .ref 189), (1, .int (i32 v1)), (2, .int (i32 v2)), (3, .int (i32 v3)), (4, .int (i32 s.1)), (5, .int (i32 s.2.1)), (6, .long (i64 (j 6)))], [], (mhp s.2.2 c, N), 0, 0)
def ex_takeElse_51 (c : Nat → Option am_C) (N : Nat) (v1 : Int) (v2 : Int) (v3 : Int) : (Int × mR) → (Nat → Int) → ag_St af_T := (fun (e : Int × mR) (j : Nat → Int) => ((153, [(0, .ref 189), (1, .int (i32 v1)), (2, .int (i32 v2)), (3, .int (i32 v3)), (4, .int (i32 e.1)), (5, .int (i32 (j 5))), (6, .long (i64 (j 6)))], [], (mhp e.2 c, N), 0, 0) : ag_St af_T))
def rfl_takeElse_199 (v1 : Int) (v3 : Int) (m : mR) : Option (Int × mR) :=
  some (0, (mO m [] [(57, upI (m.2 57) v1 v3)]))
theorem dg_takeElse_199 (w : wX) (c : Nat → Option am_C) (N D : Nat) (bb : Nat) (v1 : Int) (v3 : Int) (q1 : R32 v1) (q3 : R32 v3) (m : mR) (hm : Cn m) (j : Nat → Int) : PP bb w D pm_277 (199, [(0, .ref 189), (1, .int (i32 v1)), (2, .int (i32 (j 2))), (3, .int (i32 v3)), (4, .int (i32 (j 4))), (5, .int (i32 (j 5))), (6, .long (i64 (j 6)))], [], (mhp m c, N), 0, 0) (QS (FR0 c N) (rfl_takeElse_199 v1 v3 m)) := by
  unfold rfl_takeElse_199
  show PP bb w D pm_277 (199, [(0, .ref 189), (1, .int (i32 v1)), (2, .int (i32 (j 2))), (3, .int (i32 v3)), (4, .int (i32 (j 4))), (5, .int (i32 (j 5))), (6, .long (i64 (j 6)))], [], (mhp (mO m [] []) c, N), 0, 0) _
  refine P_gf 203 (.ref 227) rfl rfl rfl rfl rfl rfl ?_
  refine P_ld 204 (.int (i32 v1)) rfl (fun _ => rfl) ?_
  refine P_ld 205 (.int (i32 v3)) rfl (fun _ => rfl) ?_
  refine P_iast2 (a' := [(57, upI (m.2 57) v1 v3)]) 206 57 (m.2 57) rfl rfl rfl q1 rfl rfl ?_
  exact P_re0 rfl rfl (Cn_mO hm trivial ⟨(rE_ui (Cn_a hm 57) rfl q3), trivial⟩)
def rfl_takeElse_193 (v1 : Int) (v3 : Int) (m : mR) : Option (Int × mR) :=
  bnd (rf_need 59 m) fun y3 =>
  rfl_takeElse_199 v1 v3 y3.2
theorem dg_takeElse_193 (w : wX) (c : Nat → Option am_C) (N D : Nat) (bb : Nat) (v1 : Int) (v3 : Int) (q1 : R32 v1) (q3 : R32 v3) (m : mR) (hm : Cn m) (j : Nat → Int) : PP bb w D pm_277 (193, [(0, .ref 189), (1, .int (i32 v1)), (2, .int (i32 (j 2))), (3, .int (i32 v3)), (4, .int (i32 (j 4))), (5, .int (i32 (j 5))), (6, .long (i64 (j 6)))], [], (mhp m c, N), 0, 0) (QS (FR0 c N) (rfl_takeElse_193 v1 v3 m)) := by
  unfold rfl_takeElse_193
  show PP bb w D pm_277 (193, [(0, .ref 189), (1, .int (i32 v1)), (2, .int (i32 (j 2))), (3, .int (i32 v3)), (4, .int (i32 (j 4))), (5, .int (i32 (j 5))), (6, .long (i64 (j 6)))], [], (mhp (mO m [] []) c, N), 0, 0) _
  refine P_ld 194 (.ref 189) rfl (fun _ => rfl) ?_
  refine P_ld 196 (.int (i32 59)) rfl (fun _ => rfl) ?_
  refine P_ca0 199 232 [.ref 189, .int (i32 59)] [] rfl (fun _ => rfl) rfl (D_need w m c N D hm 59 (l32 59 rfl)) (fun y3 n5 => ?_)
  exact dg_takeElse_199 w c N D bb v1 v3 q1 q3 y3.2 n5 (jk [(2, j 2), (4, j 4), (5, j 5), (6, j 6)])
def rfl_takeElse_187 (v1 : Int) (v3 : Int) (m : mR) : Option (Int × mR) :=
  bnd (rf_need 41 m) fun y6 =>
  rfl_takeElse_193 v1 v3 y6.2
theorem dg_takeElse_187 (w : wX) (c : Nat → Option am_C) (N D : Nat) (bb : Nat) (v1 : Int) (v3 : Int) (q1 : R32 v1) (q3 : R32 v3) (m : mR) (hm : Cn m) (j : Nat → Int) : PP bb w D pm_277 (187, [(0, .ref 189), (1, .int (i32 v1)), (2, .int (i32 (j 2))), (3, .int (i32 v3)), (4, .int (i32 (j 4))), (5, .int (i32 (j 5))), (6, .long (i64 (j 6)))], [], (mhp m c, N), 0, 0) (QS (FR0 c N) (rfl_takeElse_187 v1 v3 m)) := by
  unfold rfl_takeElse_187
  show PP bb w D pm_277 (187, [(0, .ref 189), (1, .int (i32 v1)), (2, .int (i32 (j 2))), (3, .int (i32 v3)), (4, .int (i32 (j 4))), (5, .int (i32 (j 5))), (6, .long (i64 (j 6)))], [], (mhp (mO m [] []) c, N), 0, 0) _
  refine P_ld 188 (.ref 189) rfl (fun _ => rfl) ?_
  refine P_ld 190 (.int (i32 41)) rfl (fun _ => rfl) ?_
  refine P_ca0 193 232 [.ref 189, .int (i32 41)] [] rfl (fun _ => rfl) rfl (D_need w m c N D hm 41 (l32 41 rfl)) (fun y6 n8 => ?_)
  exact dg_takeElse_193 w c N D bb v1 v3 q1 q3 y6.2 n8 (jk [(2, j 2), (4, j 4), (5, j 5), (6, j 6)])
def rfl_takeElse_153 (v1 : Int) (v2 : Int) (v3 : Int) (v4 : Int) (m : mR) : Option (Int × mR) :=
  if m.1 10 = 0 then
    if m.1 7 = 41 then
      if v4 = (m.2 46) v3 then
        rfl_takeElse_187 v1 v3 m
      else
        bnd (rf_wrong 8 v2 m) fun y12 =>
        rfl_takeElse_187 v1 v3 y12.2
    else
      rfl_takeElse_187 v1 v3 m
  else
    rfl_takeElse_187 v1 v3 m
theorem dg_takeElse_153 (w : wX) (c : Nat → Option am_C) (N D : Nat) (bb : Nat) (v1 : Int) (v2 : Int) (v3 : Int) (v4 : Int) (q1 : R32 v1) (q2 : R32 v2) (q3 : R32 v3) (q4 : R32 v4) (m : mR) (hm : Cn m) (j : Nat → Int) : PP bb w D pm_277 (153, [(0, .ref 189), (1, .int (i32 v1)), (2, .int (i32 v2)), (3, .int (i32 v3)), (4, .int (i32 v4)), (5, .int (i32 (j 5))), (6, .long (i64 (j 6)))], [], (mhp m c, N), 0, 0) (QS (FR0 c N) (rfl_takeElse_153 v1 v2 v3 v4 m)) := by
  unfold rfl_takeElse_153
  show PP bb w D pm_277 (153, [(0, .ref 189), (1, .int (i32 v1)), (2, .int (i32 v2)), (3, .int (i32 v3)), (4, .int (i32 v4)), (5, .int (i32 (j 5))), (6, .long (i64 (j 6)))], [], (mhp (mO m [] []) c, N), 0, 0) _
  refine P_gf 157 (.int (i32 (m.1 10))) rfl rfl rfl rfl rfl rfl ?_
  refine P_ifE 187 160 rfl rfl rfl (Cn_i hm 10 rfl) rfl (fun h9 => ?_) (fun h9 => ?_)
  · skip
    refine P_gf 164 (.int (i32 (m.1 7))) rfl rfl rfl rfl rfl rfl ?_
    refine P_ld 166 (.int (i32 41)) rfl (fun _ => rfl) ?_
    refine P_icE 187 169 rfl rfl rfl (Cn_i hm 7 rfl) (l32 41 rfl) rfl (fun h10 => ?_) (fun h10 => ?_)
    · skip
      refine P_ld 171 (.int (i32 v4)) rfl (fun _ => rfl) ?_
      refine P_gf 175 (.ref 216) rfl rfl rfl rfl rfl rfl ?_
      refine P_ld 176 (.int (i32 v3)) rfl (fun _ => rfl) ?_
      refine P_iald2 177 46 (m.2 46) rfl rfl rfl q3 rfl ?_
      refine P_icF 187 180 rfl rfl rfl q4 (rE_i (Cn_a hm 46) rfl _) rfl (fun h11 => ?_) (fun h11 => ?_)
      · skip
        exact dg_takeElse_187 w c N D bb v1 v3 q1 q3 m hm (jk [(2, v2), (4, v4), (5, j 5), (6, j 6)])
      · skip
        refine P_ld 181 (.ref 189) rfl (fun _ => rfl) ?_
        refine P_ld 183 (.int (i32 8)) rfl (fun _ => rfl) ?_
        refine P_ld 184 (.int (i32 v2)) rfl (fun _ => rfl) ?_
        refine P_ca0 187 222 [.ref 189, .int (i32 8), .int (i32 v2)] [] rfl (fun _ => rfl) rfl (D_wrong w m c N D hm 8 v2 (l32 8 rfl) q2) (fun y12 n14 => ?_)
        exact dg_takeElse_187 w c N D bb v1 v3 q1 q3 y12.2 n14 (jk [(2, v2), (4, v4), (5, j 5), (6, j 6)])
    · skip
      exact dg_takeElse_187 w c N D bb v1 v3 q1 q3 m hm (jk [(2, v2), (4, v4), (5, j 5), (6, j 6)])
  · skip
    exact dg_takeElse_187 w c N D bb v1 v3 q1 q3 m hm (jk [(2, v2), (4, v4), (5, j 5), (6, j 6)])
def rfl_takeElse_150 (v1 : Int) (v2 : Int) (v3 : Int) (v4 : Int) (v5 : Int) (m : mR) : Option (Sum (Int × Int × mR) (Int × mR)) :=
  some (.inl (v4, v5, m))
theorem dg_takeElse_150 (w : wX) (c : Nat → Option am_C) (N D : Nat) (bb : Nat) (v1 : Int) (v2 : Int) (v3 : Int) (v4 : Int) (v5 : Int) (q1 : R32 v1) (q2 : R32 v2) (q3 : R32 v3) (q4 : R32 v4) (q5 : R32 v5) (m : mR) (hm : Cn m) (j : Nat → Int) (Q2 : Sum (Int × Int × mR) (Int × mR) → ag_Re af_T → Prop) (H1 : ∀ s j, cs_takeElse_51 s → PP bb w D pm_277 (hd_takeElse_51 c N v1 v2 v3 s j) (Q2 (.inl s))) (H2 : ∀ x j, cx_takeElse_51 x → PP bb w D pm_277 (ex_takeElse_51 c N v1 v2 v3 x j) (Q2 (.inr x))) : PP bb w D pm_277 (150, [(0, .ref 189), (1, .int (i32 v1)), (2, .int (i32 v2)), (3, .int (i32 v3)), (4, .int (i32 v4)), (5, .int (i32 v5)), (6, .long (i64 (j 6)))], [], (mhp m c, N), 0, 0) (QS Q2 (rfl_takeElse_150 v1 v2 v3 v4 v5 m)) := by
  unfold rfl_takeElse_150
  show PP bb w D pm_277 (150, [(0, .ref 189), (1, .int (i32 v1)), (2, .int (i32 v2)), (3, .int (i32 v3)), (4, .int (i32 v4)), (5, .int (i32 v5)), (6, .long (i64 (j 6)))], [], (mhp (mO m [] []) c, N), 0, 0) _
  refine P_goto 51 rfl (fun _ => rfl) ?_
  refine P_some ?_
  exact H1 (v4, v5, m) (jk [(6, j 6)]) ⟨q4, q5, hm⟩
def rfl_takeElse_139 (v1 : Int) (v2 : Int) (v3 : Int) (v4 : Int) (u0 : Int) (m : mR) : Option (Sum (Int × Int × mR) (Int × mR)) :=
  if u0 = 0 then
    rfl_takeElse_150 v1 v2 v3 v4 u0 m
  else
    bnd (rf_next m) fun y16 =>
    rfl_takeElse_150 v1 v2 v3 v4 u0 y16.2
theorem dg_takeElse_139 (w : wX) (c : Nat → Option am_C) (N D : Nat) (bb : Nat) (v1 : Int) (v2 : Int) (v3 : Int) (v4 : Int) (u0 : Int) (q1 : R32 v1) (q2 : R32 v2) (q3 : R32 v3) (q4 : R32 v4) (r0 : R32 u0) (m : mR) (hm : Cn m) (j : Nat → Int) (Q2 : Sum (Int × Int × mR) (Int × mR) → ag_Re af_T → Prop) (H1 : ∀ s j, cs_takeElse_51 s → PP bb w D pm_277 (hd_takeElse_51 c N v1 v2 v3 s j) (Q2 (.inl s))) (H2 : ∀ x j, cx_takeElse_51 x → PP bb w D pm_277 (ex_takeElse_51 c N v1 v2 v3 x j) (Q2 (.inr x))) : PP bb w D pm_277 (139, [(0, .ref 189), (1, .int (i32 v1)), (2, .int (i32 v2)), (3, .int (i32 v3)), (4, .int (i32 v4)), (5, .int (i32 (j 5))), (6, .long (i64 (j 6)))], [.int (i32 u0)], (mhp m c, N), 0, 0) (QS Q2 (rfl_takeElse_139 v1 v2 v3 v4 u0 m)) := by
  unfold rfl_takeElse_139
  show PP bb w D pm_277 (139, [(0, .ref 189), (1, .int (i32 v1)), (2, .int (i32 v2)), (3, .int (i32 v3)), (4, .int (i32 v4)), (5, .int (i32 (j 5))), (6, .long (i64 (j 6)))], [.int (i32 u0)], (mhp (mO m [] []) c, N), 0, 0) _
  refine P_sto 141 [(5, .int (i32 u0)), (0, .ref 189), (1, .int (i32 v1)), (2, .int (i32 v2)), (3, .int (i32 v3)), (4, .int (i32 v4)), (6, .long (i64 (j 6)))] rfl (fun _ => rfl) ?_
  refine P_ld 143 (.int (i32 u0)) rfl (fun _ => rfl) ?_
  refine P_ifF 150 146 rfl rfl rfl r0 rfl (fun h15 => ?_) (fun h15 => ?_)
  · skip
    refine P_lv (b := [(0, .ref 189), (1, .int (i32 v1)), (2, .int (i32 v2)), (3, .int (i32 v3)), (4, .int (i32 v4)), (5, .int (i32 u0)), (6, .long (i64 (j 6)))]) rfl rfl ⟨rfl, rfl, rfl, rfl, rfl, rfl, rfl, trivial⟩ ?_
    exact dg_takeElse_150 w c N D bb v1 v2 v3 v4 u0 q1 q2 q3 q4 r0 m hm (jk [(6, j 6)]) Q2 H1 H2
  · skip
    refine P_ld 147 (.ref 189) rfl (fun _ => rfl) ?_
    refine P_ca0 150 212 [.ref 189] [] rfl (fun _ => rfl) rfl (D_next w m c N D hm) (fun y16 n18 => ?_)
    refine P_lv (b := [(0, .ref 189), (1, .int (i32 v1)), (2, .int (i32 v2)), (3, .int (i32 v3)), (4, .int (i32 v4)), (5, .int (i32 u0)), (6, .long (i64 (j 6)))]) rfl rfl ⟨rfl, rfl, rfl, rfl, rfl, rfl, rfl, trivial⟩ ?_
    exact dg_takeElse_150 w c N D bb v1 v2 v3 v4 u0 q1 q2 q3 q4 r0 y16.2 n18 (jk [(6, j 6)]) Q2 H1 H2
def rfl_takeElse_138 (v1 : Int) (v2 : Int) (v3 : Int) (v4 : Int) (m : mR) : Option (Sum (Int × Int × mR) (Int × mR)) :=
  rfl_takeElse_139 v1 v2 v3 v4 0 m
theorem dg_takeElse_138 (w : wX) (c : Nat → Option am_C) (N D : Nat) (bb : Nat) (v1 : Int) (v2 : Int) (v3 : Int) (v4 : Int) (q1 : R32 v1) (q2 : R32 v2) (q3 : R32 v3) (q4 : R32 v4) (m : mR) (hm : Cn m) (j : Nat → Int) (Q2 : Sum (Int × Int × mR) (Int × mR) → ag_Re af_T → Prop) (H1 : ∀ s j, cs_takeElse_51 s → PP bb w D pm_277 (hd_takeElse_51 c N v1 v2 v3 s j) (Q2 (.inl s))) (H2 : ∀ x j, cx_takeElse_51 x → PP bb w D pm_277 (ex_takeElse_51 c N v1 v2 v3 x j) (Q2 (.inr x))) : PP bb w D pm_277 (138, [(0, .ref 189), (1, .int (i32 v1)), (2, .int (i32 v2)), (3, .int (i32 v3)), (4, .int (i32 v4)), (5, .int (i32 (j 5))), (6, .long (i64 (j 6)))], [], (mhp m c, N), 0, 0) (QS Q2 (rfl_takeElse_138 v1 v2 v3 v4 m)) := by
  unfold rfl_takeElse_138
  show PP bb w D pm_277 (138, [(0, .ref 189), (1, .int (i32 v1)), (2, .int (i32 v2)), (3, .int (i32 v3)), (4, .int (i32 v4)), (5, .int (i32 (j 5))), (6, .long (i64 (j 6)))], [], (mhp (mO m [] []) c, N), 0, 0) _
  refine P_ld 139 (.int (i32 0)) rfl (fun _ => rfl) ?_
  exact dg_takeElse_139 w c N D bb v1 v2 v3 v4 0 q1 q2 q3 q4 (l32 0 rfl) m hm (jk [(5, j 5), (6, j 6)]) Q2 H1 H2
def rfl_takeElse_115 (v1 : Int) (v2 : Int) (v3 : Int) (v4 : Int) (m : mR) : Option (Sum (Int × Int × mR) (Int × mR)) :=
  if m.1 10 = 0 then
    if m.1 7 = 44 then
      rfl_takeElse_139 v1 v2 v3 (cut (v4 + 1)) 1 m
    else
      rfl_takeElse_138 v1 v2 v3 (cut (v4 + 1)) m
  else
    rfl_takeElse_138 v1 v2 v3 (cut (v4 + 1)) m
theorem dg_takeElse_115 (w : wX) (c : Nat → Option am_C) (N D : Nat) (bb : Nat) (v1 : Int) (v2 : Int) (v3 : Int) (v4 : Int) (q1 : R32 v1) (q2 : R32 v2) (q3 : R32 v3) (q4 : R32 v4) (m : mR) (hm : Cn m) (j : Nat → Int) (Q2 : Sum (Int × Int × mR) (Int × mR) → ag_Re af_T → Prop) (H1 : ∀ s j, cs_takeElse_51 s → PP bb w D pm_277 (hd_takeElse_51 c N v1 v2 v3 s j) (Q2 (.inl s))) (H2 : ∀ x j, cx_takeElse_51 x → PP bb w D pm_277 (ex_takeElse_51 c N v1 v2 v3 x j) (Q2 (.inr x))) : PP bb w D pm_277 (115, [(0, .ref 189), (1, .int (i32 v1)), (2, .int (i32 v2)), (3, .int (i32 v3)), (4, .int (i32 v4)), (5, .int (i32 (j 5))), (6, .long (i64 (j 6)))], [], (mhp m c, N), 0, 0) (QS Q2 (rfl_takeElse_115 v1 v2 v3 v4 m)) := by
  unfold rfl_takeElse_115
  show PP bb w D pm_277 (115, [(0, .ref 189), (1, .int (i32 v1)), (2, .int (i32 v2)), (3, .int (i32 v3)), (4, .int (i32 v4)), (5, .int (i32 (j 5))), (6, .long (i64 (j 6)))], [], (mhp (mO m [] []) c, N), 0, 0) _
  refine P_inc 118 [(4, .int (i32 (cut (v4 + 1)))), (0, .ref 189), (1, .int (i32 v1)), (2, .int (i32 v2)), (3, .int (i32 v3)), (5, .int (i32 (j 5))), (6, .long (i64 (j 6)))] rfl rfl (by decide) rfl rfl ?_
  refine P_gf 122 (.int (i32 (m.1 10))) rfl rfl rfl rfl rfl rfl ?_
  refine P_ifE 138 125 rfl rfl rfl (Cn_i hm 10 rfl) rfl (fun h19 => ?_) (fun h19 => ?_)
  · skip
    refine P_gf 129 (.int (i32 (m.1 7))) rfl rfl rfl rfl rfl rfl ?_
    refine P_ld 131 (.int (i32 44)) rfl (fun _ => rfl) ?_
    refine P_icE 138 134 rfl rfl rfl (Cn_i hm 7 rfl) (l32 44 rfl) rfl (fun h20 => ?_) (fun h20 => ?_)
    · skip
      refine P_ld 135 (.int (i32 1)) rfl (fun _ => rfl) ?_
      refine P_goto 139 rfl (fun _ => rfl) ?_
      refine P_lv (b := [(0, .ref 189), (1, .int (i32 v1)), (2, .int (i32 v2)), (3, .int (i32 v3)), (4, .int (i32 (cut (v4 + 1)))), (5, .int (i32 (j 5))), (6, .long (i64 (j 6)))]) rfl rfl ⟨rfl, rfl, rfl, rfl, rfl, rfl, rfl, trivial⟩ ?_
      exact dg_takeElse_139 w c N D bb v1 v2 v3 (cut (v4 + 1)) 1 q1 q2 q3 cut_r (l32 1 rfl) m hm (jk [(5, j 5), (6, j 6)]) Q2 H1 H2
    · skip
      refine P_lv (b := [(0, .ref 189), (1, .int (i32 v1)), (2, .int (i32 v2)), (3, .int (i32 v3)), (4, .int (i32 (cut (v4 + 1)))), (5, .int (i32 (j 5))), (6, .long (i64 (j 6)))]) rfl rfl ⟨rfl, rfl, rfl, rfl, rfl, rfl, rfl, trivial⟩ ?_
      exact dg_takeElse_138 w c N D bb v1 v2 v3 (cut (v4 + 1)) q1 q2 q3 cut_r m hm (jk [(5, j 5), (6, j 6)]) Q2 H1 H2
  · skip
    refine P_lv (b := [(0, .ref 189), (1, .int (i32 v1)), (2, .int (i32 v2)), (3, .int (i32 v3)), (4, .int (i32 (cut (v4 + 1)))), (5, .int (i32 (j 5))), (6, .long (i64 (j 6)))]) rfl rfl ⟨rfl, rfl, rfl, rfl, rfl, rfl, rfl, trivial⟩ ?_
    exact dg_takeElse_138 w c N D bb v1 v2 v3 (cut (v4 + 1)) q1 q2 q3 cut_r m hm (jk [(5, j 5), (6, j 6)]) Q2 H1 H2
def rfl_takeElse_94 (v1 : Int) (v2 : Int) (v3 : Int) (v4 : Int) (u0 : Int) (m : mR) : Option (Sum (Int × Int × mR) (Int × mR)) :=
  if (4 : Int) ≤ v4 then
    rfl_takeElse_115 v1 v2 v3 v4 m
  else
    rfl_takeElse_115 v1 v2 v3 v4 (mO m [] [(115, upI (m.2 115) (cut ((cut (4 * v1)) + v4)) u0)])
theorem dg_takeElse_94 (w : wX) (c : Nat → Option am_C) (N D : Nat) (bb : Nat) (v1 : Int) (v2 : Int) (v3 : Int) (v4 : Int) (u0 : Int) (q1 : R32 v1) (q2 : R32 v2) (q3 : R32 v3) (q4 : R32 v4) (r0 : R64 u0) (m : mR) (hm : Cn m) (j : Nat → Int) (Q2 : Sum (Int × Int × mR) (Int × mR) → ag_Re af_T → Prop) (H1 : ∀ s j, cs_takeElse_51 s → PP bb w D pm_277 (hd_takeElse_51 c N v1 v2 v3 s j) (Q2 (.inl s))) (H2 : ∀ x j, cx_takeElse_51 x → PP bb w D pm_277 (ex_takeElse_51 c N v1 v2 v3 x j) (Q2 (.inr x))) : PP bb w D pm_277 (94, [(0, .ref 189), (1, .int (i32 v1)), (2, .int (i32 v2)), (3, .int (i32 v3)), (4, .int (i32 v4)), (5, .int (i32 (j 5))), (6, .long (i64 (j 6)))], [.long (i64 u0)], (mhp m c, N), 0, 0) (QS Q2 (rfl_takeElse_94 v1 v2 v3 v4 u0 m)) := by
  unfold rfl_takeElse_94
  show PP bb w D pm_277 (94, [(0, .ref 189), (1, .int (i32 v1)), (2, .int (i32 v2)), (3, .int (i32 v3)), (4, .int (i32 v4)), (5, .int (i32 (j 5))), (6, .long (i64 (j 6)))], [.long (i64 u0)], (mhp (mO m [] []) c, N), 0, 0) _
  refine P_sto 96 [(6, .long (i64 u0)), (0, .ref 189), (1, .int (i32 v1)), (2, .int (i32 v2)), (3, .int (i32 v3)), (4, .int (i32 v4)), (5, .int (i32 (j 5)))] rfl (fun _ => rfl) ?_
  refine P_ld 98 (.int (i32 v4)) rfl (fun _ => rfl) ?_
  refine P_ld 99 (.int (i32 4)) rfl (fun _ => rfl) ?_
  refine P_icF 115 102 rfl rfl rfl q4 (l32 4 rfl) rfl (fun h21 => ?_) (fun h21 => ?_)
  · skip
    refine P_lv (b := [(0, .ref 189), (1, .int (i32 v1)), (2, .int (i32 v2)), (3, .int (i32 v3)), (4, .int (i32 v4)), (5, .int (i32 (j 5))), (6, .long (i64 u0))]) rfl rfl ⟨rfl, rfl, rfl, rfl, rfl, rfl, rfl, trivial⟩ ?_
    exact dg_takeElse_115 w c N D bb v1 v2 v3 v4 q1 q2 q3 q4 m hm (jk [(5, j 5), (6, u0)]) Q2 H1 H2
  · skip
    refine P_gf 106 (.ref 275) rfl rfl rfl rfl rfl rfl ?_
    refine P_ld 107 (.int (i32 4)) rfl (fun _ => rfl) ?_
    refine P_ld 108 (.int (i32 v1)) rfl (fun _ => rfl) ?_
    refine P_op 109 (cut (4 * v1)) _ rfl (fun _ => rfl) o_mul ?_
    refine P_ld 111 (.int (i32 v4)) rfl (fun _ => rfl) ?_
    refine P_op 112 (cut ((cut (4 * v1)) + v4)) _ rfl (fun _ => rfl) o_add ?_
    refine P_ld 114 (.long (i64 u0)) rfl (fun _ => rfl) ?_
    refine P_last2 (a' := [(115, upI (m.2 115) (cut ((cut (4 * v1)) + v4)) u0)]) 115 115 (m.2 115) rfl rfl rfl cut_r rfl rfl ?_
    refine P_lv (b := [(0, .ref 189), (1, .int (i32 v1)), (2, .int (i32 v2)), (3, .int (i32 v3)), (4, .int (i32 v4)), (5, .int (i32 (j 5))), (6, .long (i64 u0))]) rfl rfl ⟨rfl, rfl, rfl, rfl, rfl, rfl, rfl, trivial⟩ ?_
    exact dg_takeElse_115 w c N D bb v1 v2 v3 v4 q1 q2 q3 q4 (mO m [] [(115, upI (m.2 115) (cut ((cut (4 * v1)) + v4)) u0)]) (Cn_mO hm trivial ⟨(rE_ul (Cn_a hm 115) rfl r0), trivial⟩) (jk [(5, j 5), (6, u0)]) Q2 H1 H2
def rfl_takeElse_91 (v1 : Int) (v2 : Int) (v3 : Int) (v4 : Int) (u1 : Int) (m : mR) : Option (Sum (Int × Int × mR) (Int × mR)) :=
  bnd (rf_caseNumber u1 m) fun y22 =>
  rfl_takeElse_94 v1 v2 v3 v4 y22.1 y22.2
theorem dg_takeElse_91 (w : wX) (c : Nat → Option am_C) (N D : Nat) (bb : Nat) (v1 : Int) (v2 : Int) (v3 : Int) (v4 : Int) (u1 : Int) (q1 : R32 v1) (q2 : R32 v2) (q3 : R32 v3) (q4 : R32 v4) (r1 : R32 u1) (m : mR) (hm : Cn m) (j : Nat → Int) (Q2 : Sum (Int × Int × mR) (Int × mR) → ag_Re af_T → Prop) (H1 : ∀ s j, cs_takeElse_51 s → PP bb w D pm_277 (hd_takeElse_51 c N v1 v2 v3 s j) (Q2 (.inl s))) (H2 : ∀ x j, cx_takeElse_51 x → PP bb w D pm_277 (ex_takeElse_51 c N v1 v2 v3 x j) (Q2 (.inr x))) : PP bb w D pm_277 (91, [(0, .ref 189), (1, .int (i32 v1)), (2, .int (i32 v2)), (3, .int (i32 v3)), (4, .int (i32 v4)), (5, .int (i32 (j 5))), (6, .long (i64 (j 6)))], [.int (i32 u1), .ref 189], (mhp m c, N), 0, 0) (QS Q2 (rfl_takeElse_91 v1 v2 v3 v4 u1 m)) := by
  unfold rfl_takeElse_91
  show PP bb w D pm_277 (91, [(0, .ref 189), (1, .int (i32 v1)), (2, .int (i32 v2)), (3, .int (i32 v3)), (4, .int (i32 v4)), (5, .int (i32 (j 5))), (6, .long (i64 (j 6)))], [.int (i32 u1), .ref 189], (mhp (mO m [] []) c, N), 0, 0) _
  refine P_ca2 94 266 [.ref 189, .int (i32 u1)] [] rfl (fun _ => rfl) rfl (D_caseNumber w m c N D hm u1 r1) (fun y22 h23 n24 => ?_)
  exact dg_takeElse_94 w c N D bb v1 v2 v3 v4 y22.1 q1 q2 q3 q4 h23 y22.2 n24 (jk [(5, j 5), (6, j 6)]) Q2 H1 H2
def rfb_takeElse_51 (v1 : Int) (v2 : Int) (v3 : Int) (s : Int × Int × mR) : Option (Sum (Int × Int × mR) (Int × mR)) :=
  if s.2.1 = 0 then
    some (.inr (s.1, s.2.2))
  else
    if s.2.2.1 10 = 0 then
      if (s.2.2.2 46) v3 ≤ s.1 then
        rfl_takeElse_91 v1 v2 v3 s.1 64 s.2.2
      else
        rfl_takeElse_91 v1 v2 v3 s.1 ((s.2.2.2 49) (cut ((cut (4 * v3)) + s.1))) s.2.2
    else
      some (.inr (s.1, s.2.2))
theorem dh_takeElse_51 (w : wX) (c : Nat → Option am_C) (N D : Nat) (v1 : Int) (v2 : Int) (v3 : Int) (q1 : R32 v1) (q2 : R32 v2) (q3 : R32 v3) (bb : Nat) (Q2 : Sum (Int × Int × mR) (Int × mR) → ag_Re af_T → Prop) (H1 : ∀ s j, cs_takeElse_51 s → PP bb w D pm_277 (hd_takeElse_51 c N v1 v2 v3 s j) (Q2 (.inl s))) (H2 : ∀ x j, cx_takeElse_51 x → PP bb w D pm_277 (ex_takeElse_51 c N v1 v2 v3 x j) (Q2 (.inr x))) (s : Int × Int × mR) (j : Nat → Int) (hs : cs_takeElse_51 s) : PP (bb + 1) w D pm_277 (hd_takeElse_51 c N v1 v2 v3 s j) (QS Q2 (rfb_takeElse_51 v1 v2 v3 s)) := by
  obtain ⟨g4, g5, gm⟩ := hs
  unfold rfb_takeElse_51
  show PP (bb + 1) w D pm_277 (51, [(0, .ref 189), (1, .int (i32 v1)), (2, .int (i32 v2)), (3, .int (i32 v3)), (4, .int (i32 s.1)), (5, .int (i32 s.2.1)), (6, .long (i64 (j 6)))], [], (mhp (mO s.2.2 [] []) c, N), 0, 0) _
  refine P1_ld 53 (.int (i32 s.2.1)) rfl (fun _ => rfl) ?_
  refine P_ifF 153 56 rfl rfl rfl g5 rfl (fun h27 => ?_) (fun h27 => ?_)
  · skip
    refine P_some ?_
    exact H2 (s.1, s.2.2) (jk [(5, s.2.1), (6, j 6)]) ⟨g4, gm⟩
  · skip
    refine P_gf 60 (.int (i32 (s.2.2.1 10))) rfl rfl rfl rfl rfl rfl ?_
    refine P_ifE 153 63 rfl rfl rfl (Cn_i gm 10 rfl) rfl (fun h28 => ?_) (fun h28 => ?_)
    · skip
      refine P_ld 64 (.ref 189) rfl (fun _ => rfl) ?_
      refine P_ld 66 (.int (i32 s.1)) rfl (fun _ => rfl) ?_
      refine P_gf 70 (.ref 216) rfl rfl rfl rfl rfl rfl ?_
      refine P_ld 71 (.int (i32 v3)) rfl (fun _ => rfl) ?_
      refine P_iald2 72 46 (s.2.2.2 46) rfl rfl rfl q3 rfl ?_
      refine P_icF 89 75 rfl rfl rfl g4 (rE_i (Cn_a gm 46) rfl _) rfl (fun h29 => ?_) (fun h29 => ?_)
      · skip
        refine P_ld 91 (.int (i32 64)) rfl (fun _ => rfl) ?_
        exact dg_takeElse_91 w c N D bb v1 v2 v3 s.1 64 q1 q2 q3 g4 (l32 64 rfl) s.2.2 gm (jk [(5, s.2.1), (6, j 6)]) Q2 H1 H2
      · skip
        refine P_gf 79 (.ref 219) rfl rfl rfl rfl rfl rfl ?_
        refine P_ld 80 (.int (i32 4)) rfl (fun _ => rfl) ?_
        refine P_ld 81 (.int (i32 v3)) rfl (fun _ => rfl) ?_
        refine P_op 82 (cut (4 * v3)) _ rfl (fun _ => rfl) o_mul ?_
        refine P_ld 84 (.int (i32 s.1)) rfl (fun _ => rfl) ?_
        refine P_op 85 (cut ((cut (4 * v3)) + s.1)) _ rfl (fun _ => rfl) o_add ?_
        refine P_iald2 86 49 (s.2.2.2 49) rfl rfl rfl cut_r rfl ?_
        refine P_goto 91 rfl (fun _ => rfl) ?_
        exact dg_takeElse_91 w c N D bb v1 v2 v3 s.1 ((s.2.2.2 49) (cut ((cut (4 * v3)) + s.1))) q1 q2 q3 g4 (rE_i (Cn_a gm 49) rfl _) s.2.2 gm (jk [(5, s.2.1), (6, j 6)]) Q2 H1 H2
    · skip
      refine P_some ?_
      exact H2 (s.1, s.2.2) (jk [(5, s.2.1), (6, j 6)]) ⟨g4, gm⟩
def rfl_takeElse_49 (v1 : Int) (v2 : Int) (v3 : Int) (v4 : Int) (u0 : Int) (m : mR) : Option (Int × mR) :=
  bnd (whl (rfb_takeElse_51 v1 v2 v3) (v4, u0, m)) (fun e30 : Int × mR =>
    rfl_takeElse_153 v1 v2 v3 e30.1 e30.2)
theorem dg_takeElse_49 (w : wX) (c : Nat → Option am_C) (N D : Nat) (bb : Nat) (v1 : Int) (v2 : Int) (v3 : Int) (v4 : Int) (u0 : Int) (q1 : R32 v1) (q2 : R32 v2) (q3 : R32 v3) (q4 : R32 v4) (r0 : R32 u0) (m : mR) (hm : Cn m) (j : Nat → Int) : PP bb w D pm_277 (49, [(0, .ref 189), (1, .int (i32 v1)), (2, .int (i32 v2)), (3, .int (i32 v3)), (4, .int (i32 v4))], [.int (i32 u0)], (mhp m c, N), 0, 0) (QS (FR0 c N) (rfl_takeElse_49 v1 v2 v3 v4 u0 m)) := by
  unfold rfl_takeElse_49
  show PP bb w D pm_277 (49, [(0, .ref 189), (1, .int (i32 v1)), (2, .int (i32 v2)), (3, .int (i32 v3)), (4, .int (i32 v4))], [.int (i32 u0)], (mhp (mO m [] []) c, N), 0, 0) _
  refine P_sto 51 [(5, .int (i32 u0)), (0, .ref 189), (1, .int (i32 v1)), (2, .int (i32 v2)), (3, .int (i32 v3)), (4, .int (i32 v4))] rfl (fun _ => rfl) ?_
  refine P_lv (b := [(0, .ref 189), (1, .int (i32 v1)), (2, .int (i32 v2)), (3, .int (i32 v3)), (4, .int (i32 v4)), (5, .int (i32 u0)), (6, .long (i64 0))]) rfl rfl ⟨rfl, rfl, rfl, rfl, rfl, rfl, trivial⟩ ?_
  refine P_bnd ?_
  refine P_whl (fun bb Q2 H1 H2 s9 j9 hs9 => dh_takeElse_51 w c N D v1 v2 v3 q1 q2 q3 bb Q2 H1 H2 s9 j9 hs9) bb (fun e30 j q31 => ?_) (v4, u0, m) (jk []) ⟨q4, r0, hm⟩
  obtain ⟨q32, q33⟩ := q31
  show PP bb w D pm_277 (153, [(0, .ref 189), (1, .int (i32 v1)), (2, .int (i32 v2)), (3, .int (i32 v3)), (4, .int (i32 e30.1)), (5, .int (i32 (j 5))), (6, .long (i64 (j 6)))], [], (mhp (mO e30.2 [] []) c, N), 0, 0) (QS _ (rfl_takeElse_153 v1 v2 v3 e30.1 e30.2))
  exact dg_takeElse_153 w c N D bb v1 v2 v3 e30.1 q1 q2 q3 q32 e30.2 q33 (jk [(5, j 5), (6, j 6)])
def rfl_takeElse_48 (v1 : Int) (v2 : Int) (v3 : Int) (v4 : Int) (m : mR) : Option (Int × mR) :=
  rfl_takeElse_49 v1 v2 v3 v4 0 m
theorem dg_takeElse_48 (w : wX) (c : Nat → Option am_C) (N D : Nat) (bb : Nat) (v1 : Int) (v2 : Int) (v3 : Int) (v4 : Int) (q1 : R32 v1) (q2 : R32 v2) (q3 : R32 v3) (q4 : R32 v4) (m : mR) (hm : Cn m) (j : Nat → Int) : PP bb w D pm_277 (48, [(0, .ref 189), (1, .int (i32 v1)), (2, .int (i32 v2)), (3, .int (i32 v3)), (4, .int (i32 v4))], [], (mhp m c, N), 0, 0) (QS (FR0 c N) (rfl_takeElse_48 v1 v2 v3 v4 m)) := by
  unfold rfl_takeElse_48
  show PP bb w D pm_277 (48, [(0, .ref 189), (1, .int (i32 v1)), (2, .int (i32 v2)), (3, .int (i32 v3)), (4, .int (i32 v4))], [], (mhp (mO m [] []) c, N), 0, 0) _
  refine P_ld 49 (.int (i32 0)) rfl (fun _ => rfl) ?_
  exact dg_takeElse_49 w c N D bb v1 v2 v3 v4 0 q1 q2 q3 q4 (l32 0 rfl) m hm (jk [])
def rfl_takeElse_25 (v1 : Int) (v2 : Int) (v3 : Int) (m : mR) : Option (Int × mR) :=
  if m.1 10 = 0 then
    if m.1 7 = 41 then
      rfl_takeElse_48 v1 v2 v3 0 m
    else
      rfl_takeElse_49 v1 v2 v3 0 1 m
  else
    rfl_takeElse_48 v1 v2 v3 0 m
theorem dg_takeElse_25 (w : wX) (c : Nat → Option am_C) (N D : Nat) (bb : Nat) (v1 : Int) (v2 : Int) (v3 : Int) (q1 : R32 v1) (q2 : R32 v2) (q3 : R32 v3) (m : mR) (hm : Cn m) (j : Nat → Int) : PP bb w D pm_277 (25, [(0, .ref 189), (1, .int (i32 v1)), (2, .int (i32 v2)), (3, .int (i32 v3))], [], (mhp m c, N), 0, 0) (QS (FR0 c N) (rfl_takeElse_25 v1 v2 v3 m)) := by
  unfold rfl_takeElse_25
  show PP bb w D pm_277 (25, [(0, .ref 189), (1, .int (i32 v1)), (2, .int (i32 v2)), (3, .int (i32 v3))], [], (mhp (mO m [] []) c, N), 0, 0) _
  refine P_ld 26 (.int (i32 0)) rfl (fun _ => rfl) ?_
  refine P_sto 28 [(4, .int (i32 0)), (0, .ref 189), (1, .int (i32 v1)), (2, .int (i32 v2)), (3, .int (i32 v3))] rfl (fun _ => rfl) ?_
  refine P_gf 32 (.int (i32 (m.1 10))) rfl rfl rfl rfl rfl rfl ?_
  refine P_ifE 48 35 rfl rfl rfl (Cn_i hm 10 rfl) rfl (fun h34 => ?_) (fun h34 => ?_)
  · skip
    refine P_gf 39 (.int (i32 (m.1 7))) rfl rfl rfl rfl rfl rfl ?_
    refine P_ld 41 (.int (i32 41)) rfl (fun _ => rfl) ?_
    refine P_icF 48 44 rfl rfl rfl (Cn_i hm 7 rfl) (l32 41 rfl) rfl (fun h35 => ?_) (fun h35 => ?_)
    · skip
      refine P_lv (b := [(0, .ref 189), (1, .int (i32 v1)), (2, .int (i32 v2)), (3, .int (i32 v3)), (4, .int (i32 0))]) rfl rfl ⟨rfl, rfl, rfl, rfl, rfl, trivial⟩ ?_
      exact dg_takeElse_48 w c N D bb v1 v2 v3 0 q1 q2 q3 (l32 0 rfl) m hm (jk [])
    · skip
      refine P_ld 45 (.int (i32 1)) rfl (fun _ => rfl) ?_
      refine P_goto 49 rfl (fun _ => rfl) ?_
      refine P_lv (b := [(0, .ref 189), (1, .int (i32 v1)), (2, .int (i32 v2)), (3, .int (i32 v3)), (4, .int (i32 0))]) rfl rfl ⟨rfl, rfl, rfl, rfl, rfl, trivial⟩ ?_
      exact dg_takeElse_49 w c N D bb v1 v2 v3 0 1 q1 q2 q3 (l32 0 rfl) (l32 1 rfl) m hm (jk [])
  · skip
    refine P_lv (b := [(0, .ref 189), (1, .int (i32 v1)), (2, .int (i32 v2)), (3, .int (i32 v3)), (4, .int (i32 0))]) rfl rfl ⟨rfl, rfl, rfl, rfl, rfl, trivial⟩ ?_
    exact dg_takeElse_48 w c N D bb v1 v2 v3 0 q1 q2 q3 (l32 0 rfl) m hm (jk [])
def rfl_takeElse_18 (v1 : Int) (v2 : Int) (u0 : Int) (m : mR) : Option (Int × mR) :=
  bnd (rf_need 40 m) fun y36 =>
  rfl_takeElse_25 v1 v2 u0 y36.2
theorem dg_takeElse_18 (w : wX) (c : Nat → Option am_C) (N D : Nat) (bb : Nat) (v1 : Int) (v2 : Int) (u0 : Int) (q1 : R32 v1) (q2 : R32 v2) (r0 : R32 u0) (m : mR) (hm : Cn m) (j : Nat → Int) : PP bb w D pm_277 (18, [(0, .ref 189), (1, .int (i32 v1)), (2, .int (i32 v2))], [.int (i32 u0)], (mhp m c, N), 0, 0) (QS (FR0 c N) (rfl_takeElse_18 v1 v2 u0 m)) := by
  unfold rfl_takeElse_18
  show PP bb w D pm_277 (18, [(0, .ref 189), (1, .int (i32 v1)), (2, .int (i32 v2))], [.int (i32 u0)], (mhp (mO m [] []) c, N), 0, 0) _
  refine P_sto 19 [(3, .int (i32 u0)), (0, .ref 189), (1, .int (i32 v1)), (2, .int (i32 v2))] rfl (fun _ => rfl) ?_
  refine P_ld 20 (.ref 189) rfl (fun _ => rfl) ?_
  refine P_ld 22 (.int (i32 40)) rfl (fun _ => rfl) ?_
  refine P_ca0 25 232 [.ref 189, .int (i32 40)] [] rfl (fun _ => rfl) rfl (D_need w m c N D hm 40 (l32 40 rfl)) (fun y36 n38 => ?_)
  refine P_lv (b := [(0, .ref 189), (1, .int (i32 v1)), (2, .int (i32 v2)), (3, .int (i32 u0))]) rfl rfl ⟨rfl, rfl, rfl, rfl, trivial⟩ ?_
  exact dg_takeElse_25 w c N D bb v1 v2 u0 q1 q2 r0 y36.2 n38 (jk [])
def rfl_takeElse_7 (v1 : Int) (m : mR) : Option (Int × mR) :=
  bnd (rf_oldName 6 m) fun y39 =>
  rfl_takeElse_18 v1 (m.1 8) y39.1 y39.2
theorem dg_takeElse_7 (w : wX) (c : Nat → Option am_C) (N D : Nat) (bb : Nat) (v1 : Int) (q1 : R32 v1) (m : mR) (hm : Cn m) (j : Nat → Int) : PP bb w D pm_277 (7, [(0, .ref 189), (1, .int (i32 v1))], [], (mhp m c, N), 0, 0) (QS (FR0 c N) (rfl_takeElse_7 v1 m)) := by
  unfold rfl_takeElse_7
  show PP bb w D pm_277 (7, [(0, .ref 189), (1, .int (i32 v1))], [], (mhp (mO m [] []) c, N), 0, 0) _
  refine P_gf 11 (.int (i32 (m.1 8))) rfl rfl rfl rfl rfl rfl ?_
  refine P_sto 12 [(2, .int (i32 (m.1 8))), (0, .ref 189), (1, .int (i32 v1))] rfl (fun _ => rfl) ?_
  refine P_ld 13 (.ref 189) rfl (fun _ => rfl) ?_
  refine P_ld 15 (.int (i32 6)) rfl (fun _ => rfl) ?_
  refine P_ca1 18 236 [.ref 189, .int (i32 6)] [] rfl (fun _ => rfl) rfl (D_oldName w m c N D hm 6 (l32 6 rfl)) (fun y39 h40 n41 => ?_)
  refine P_lv (b := [(0, .ref 189), (1, .int (i32 v1)), (2, .int (i32 (m.1 8)))]) rfl rfl ⟨rfl, rfl, rfl, trivial⟩ ?_
  exact dg_takeElse_18 w c N D bb v1 (m.1 8) y39.1 q1 (Cn_i hm 8 rfl) h40 y39.2 n41 (jk [])
def rf_takeElse (v1 : Int) (m : mR) : Option (Int × mR) :=
  bnd (rf_need 308 m) fun y42 =>
  rfl_takeElse_7 v1 y42.2
theorem D_takeElse (w : wX) (m : mR) (c : Nat → Option am_C) (N D : Nat) (hm : Cn m) (v1 : Int) (q1 : R32 v1) : PC w D 277 [.ref 189, .int (i32 v1)] (mhp m c, N) (QS (FR0 c N) (rf_takeElse v1 m)) := by
  refine Pc_of (fun D bb => ?_) D
  unfold rf_takeElse
  show PP bb w D pm_277 (0, [(0, .ref 189), (1, .int (i32 v1))], [], (mhp (mO m [] []) c, N), 0, 0) _
  refine P_ld 1 (.ref 189) rfl (fun _ => rfl) ?_
  refine P_ld 4 (.int (i32 308)) rfl (fun _ => rfl) ?_
  refine P_ca0 7 232 [.ref 189, .int (i32 308)] [] rfl (fun _ => rfl) rfl (D_need w m c N D hm 308 (l32 308 rfl)) (fun y42 n44 => ?_)
  exact dg_takeElse_7 w c N D bb v1 q1 y42.2 n44 (jk [])
def rfl_takeRoom_168 (m : mR) : Option (Int × mR) :=
  bnd (rf_need 59 m) fun y1 =>
  some (0, y1.2)
theorem dg_takeRoom_168 (w : wX) (c : Nat → Option am_C) (N D : Nat) (bb : Nat) (m : mR) (hm : Cn m) (j : Nat → Int) : PP bb w D pm_278 (168, [(0, .ref 189), (1, .int (i32 (j 1)))], [], (mhp m c, N), 0, 0) (QS (FR0 c N) (rfl_takeRoom_168 m)) := by
  unfold rfl_takeRoom_168
  show PP bb w D pm_278 (168, [(0, .ref 189), (1, .int (i32 (j 1)))], [], (mhp (mO m [] []) c, N), 0, 0) _
  refine P_ld 169 (.ref 189) rfl (fun _ => rfl) ?_
  refine P_ld 171 (.int (i32 59)) rfl (fun _ => rfl) ?_
  refine P_ca0 174 232 [.ref 189, .int (i32 59)] [] rfl (fun _ => rfl) rfl (D_need w m c N D hm 59 (l32 59 rfl)) (fun y1 n3 => ?_)
  exact P_re0 rfl rfl n3
def rfl_takeRoom_167 (u1 : Int) (u2 : Int) (m : mR) : Option (Int × mR) :=
  rfl_takeRoom_168 (mO m [] [(56, upI (m.2 56) u1 u2)])
theorem dg_takeRoom_167 (w : wX) (c : Nat → Option am_C) (N D : Nat) (bb : Nat) (u1 : Int) (u2 : Int) (r1 : R32 u1) (r2 : R32 u2) (m : mR) (hm : Cn m) (j : Nat → Int) : PP bb w D pm_278 (167, [(0, .ref 189), (1, .int (i32 (j 1)))], [.int (i32 u2), .int (i32 u1), .ref 226], (mhp m c, N), 0, 0) (QS (FR0 c N) (rfl_takeRoom_167 u1 u2 m)) := by
  unfold rfl_takeRoom_167
  show PP bb w D pm_278 (167, [(0, .ref 189), (1, .int (i32 (j 1)))], [.int (i32 u2), .int (i32 u1), .ref 226], (mhp (mO m [] []) c, N), 0, 0) _
  refine P_iast2 (a' := [(56, upI (m.2 56) u1 u2)]) 168 56 (m.2 56) rfl rfl rfl r1 rfl rfl ?_
  exact dg_takeRoom_168 w c N D bb (mO m [] [(56, upI (m.2 56) u1 u2)]) (Cn_mO hm trivial ⟨(rE_ui (Cn_a hm 56) rfl r2), trivial⟩) (jk [(1, j 1)])
def rfl_takeRoom_155 (v1 : Int) (m : mR) : Option (Int × mR) :=
  bnd (rf_number 0 8 m) fun y4 =>
  rfl_takeRoom_167 v1 y4.1 y4.2
theorem dg_takeRoom_155 (w : wX) (c : Nat → Option am_C) (N D : Nat) (bb : Nat) (v1 : Int) (q1 : R32 v1) (m : mR) (hm : Cn m) (j : Nat → Int) : PP bb w D pm_278 (155, [(0, .ref 189), (1, .int (i32 v1))], [], (mhp m c, N), 0, 0) (QS (FR0 c N) (rfl_takeRoom_155 v1 m)) := by
  unfold rfl_takeRoom_155
  show PP bb w D pm_278 (155, [(0, .ref 189), (1, .int (i32 v1))], [], (mhp (mO m [] []) c, N), 0, 0) _
  refine P_gf 159 (.ref 226) rfl rfl rfl rfl rfl rfl ?_
  refine P_ld 160 (.int (i32 v1)) rfl (fun _ => rfl) ?_
  refine P_ld 161 (.ref 189) rfl (fun _ => rfl) ?_
  refine P_ld 162 (.int (i32 0)) rfl (fun _ => rfl) ?_
  refine P_ld 164 (.int (i32 8)) rfl (fun _ => rfl) ?_
  refine P_ca1 167 234 [.ref 189, .int (i32 0), .int (i32 8)] [.int (i32 v1), .ref 226] rfl (fun _ => rfl) rfl (D_number w m c N D hm 0 8 (l32 0 rfl) (l32 8 rfl)) (fun y4 h5 n6 => ?_)
  exact dg_takeRoom_167 w c N D bb v1 y4.1 q1 h5 y4.2 n6 (jk [(1, v1)])
def rfl_takeRoom_147 (v1 : Int) (u1 : Int) (u2 : Int) (m : mR) : Option (Int × mR) :=
  bnd (rf_need 318 (mO m [] [(55, upI (m.2 55) u1 u2)])) fun y7 =>
  rfl_takeRoom_155 v1 y7.2
theorem dg_takeRoom_147 (w : wX) (c : Nat → Option am_C) (N D : Nat) (bb : Nat) (v1 : Int) (u1 : Int) (u2 : Int) (q1 : R32 v1) (r1 : R32 u1) (r2 : R32 u2) (m : mR) (hm : Cn m) (j : Nat → Int) : PP bb w D pm_278 (147, [(0, .ref 189), (1, .int (i32 v1))], [.int (i32 u2), .int (i32 u1), .ref 225], (mhp m c, N), 0, 0) (QS (FR0 c N) (rfl_takeRoom_147 v1 u1 u2 m)) := by
  unfold rfl_takeRoom_147
  show PP bb w D pm_278 (147, [(0, .ref 189), (1, .int (i32 v1))], [.int (i32 u2), .int (i32 u1), .ref 225], (mhp (mO m [] []) c, N), 0, 0) _
  refine P_iast2 (a' := [(55, upI (m.2 55) u1 u2)]) 148 55 (m.2 55) rfl rfl rfl r1 rfl rfl ?_
  refine P_ld 149 (.ref 189) rfl (fun _ => rfl) ?_
  refine P_ld 152 (.int (i32 318)) rfl (fun _ => rfl) ?_
  refine P_ca0 155 232 [.ref 189, .int (i32 318)] [] rfl (fun _ => rfl) rfl (D_need w (mO m [] [(55, upI (m.2 55) u1 u2)]) c N D (Cn_mO hm trivial ⟨(rE_ui (Cn_a hm 55) rfl r2), trivial⟩) 318 (l32 318 rfl)) (fun y7 n9 => ?_)
  exact dg_takeRoom_155 w c N D bb v1 q1 y7.2 n9 (jk [])
def rfl_takeRoom_136 (v1 : Int) (m : mR) : Option (Int × mR) :=
  bnd (rf_number 1 4 m) fun y10 =>
  rfl_takeRoom_147 v1 v1 y10.1 y10.2
theorem dg_takeRoom_136 (w : wX) (c : Nat → Option am_C) (N D : Nat) (bb : Nat) (v1 : Int) (q1 : R32 v1) (m : mR) (hm : Cn m) (j : Nat → Int) : PP bb w D pm_278 (136, [(0, .ref 189), (1, .int (i32 v1))], [], (mhp m c, N), 0, 0) (QS (FR0 c N) (rfl_takeRoom_136 v1 m)) := by
  unfold rfl_takeRoom_136
  show PP bb w D pm_278 (136, [(0, .ref 189), (1, .int (i32 v1))], [], (mhp (mO m [] []) c, N), 0, 0) _
  refine P_gf 140 (.ref 225) rfl rfl rfl rfl rfl rfl ?_
  refine P_ld 141 (.int (i32 v1)) rfl (fun _ => rfl) ?_
  refine P_ld 142 (.ref 189) rfl (fun _ => rfl) ?_
  refine P_ld 143 (.int (i32 1)) rfl (fun _ => rfl) ?_
  refine P_ld 144 (.int (i32 4)) rfl (fun _ => rfl) ?_
  refine P_ca1 147 234 [.ref 189, .int (i32 1), .int (i32 4)] [.int (i32 v1), .ref 225] rfl (fun _ => rfl) rfl (D_number w m c N D hm 1 4 (l32 1 rfl) (l32 4 rfl)) (fun y10 h11 n12 => ?_)
  exact dg_takeRoom_147 w c N D bb v1 v1 y10.1 q1 q1 h11 y10.2 n12 (jk [])
def rfl_takeRoom_105 (v1 : Int) (u1 : Int) (u2 : Int) (m : mR) : Option (Int × mR) :=
  if (m.2 58) v1 = 0 then
    rfl_takeRoom_168 (mO m [] [(54, upI (m.2 54) u1 u2), (55, upI (m.2 55) v1 0), (56, upI (m.2 56) v1 0)])
  else
    bnd (rf_need 317 (mO m [] [(54, upI (m.2 54) u1 u2), (55, upI (m.2 55) v1 0), (56, upI (m.2 56) v1 0)])) fun y14 =>
    rfl_takeRoom_136 v1 y14.2
theorem dg_takeRoom_105 (w : wX) (c : Nat → Option am_C) (N D : Nat) (bb : Nat) (v1 : Int) (u1 : Int) (u2 : Int) (q1 : R32 v1) (r1 : R32 u1) (r2 : R32 u2) (m : mR) (hm : Cn m) (j : Nat → Int) : PP bb w D pm_278 (105, [(0, .ref 189), (1, .int (i32 v1))], [.int (i32 u2), .int (i32 u1), .ref 224], (mhp m c, N), 0, 0) (QS (FR0 c N) (rfl_takeRoom_105 v1 u1 u2 m)) := by
  unfold rfl_takeRoom_105
  show PP bb w D pm_278 (105, [(0, .ref 189), (1, .int (i32 v1))], [.int (i32 u2), .int (i32 u1), .ref 224], (mhp (mO m [] []) c, N), 0, 0) _
  refine P_iast2 (a' := [(54, upI (m.2 54) u1 u2)]) 106 54 (m.2 54) rfl rfl rfl r1 rfl rfl ?_
  refine P_gf 110 (.ref 225) rfl rfl rfl rfl rfl rfl ?_
  refine P_ld 111 (.int (i32 v1)) rfl (fun _ => rfl) ?_
  refine P_ld 112 (.int (i32 0)) rfl (fun _ => rfl) ?_
  refine P_iast2 (a' := [(54, upI (m.2 54) u1 u2), (55, upI (m.2 55) v1 0)]) 113 55 (m.2 55) rfl rfl rfl q1 rfl rfl ?_
  refine P_gf 117 (.ref 226) rfl rfl rfl rfl rfl rfl ?_
  refine P_ld 118 (.int (i32 v1)) rfl (fun _ => rfl) ?_
  refine P_ld 119 (.int (i32 0)) rfl (fun _ => rfl) ?_
  refine P_iast2 (a' := [(54, upI (m.2 54) u1 u2), (55, upI (m.2 55) v1 0), (56, upI (m.2 56) v1 0)]) 120 56 (m.2 56) rfl rfl rfl q1 rfl rfl ?_
  refine P_gf 124 (.ref 228) rfl rfl rfl rfl rfl rfl ?_
  refine P_ld 125 (.int (i32 v1)) rfl (fun _ => rfl) ?_
  refine P_bald2 126 58 (m.2 58) rfl rfl rfl q1 rfl ?_
  refine P_ifF 168 129 rfl rfl rfl (rE_i (Cn_a hm 58) rfl _) rfl (fun h13 => ?_) (fun h13 => ?_)
  · skip
    exact dg_takeRoom_168 w c N D bb (mO m [] [(54, upI (m.2 54) u1 u2), (55, upI (m.2 55) v1 0), (56, upI (m.2 56) v1 0)]) (Cn_mO hm trivial ⟨(rE_ui (Cn_a hm 54) rfl r2), (rE_ui (Cn_a hm 55) rfl (l32 0 rfl)), (rE_ui (Cn_a hm 56) rfl (l32 0 rfl)), trivial⟩) (jk [(1, v1)])
  · skip
    refine P_ld 130 (.ref 189) rfl (fun _ => rfl) ?_
    refine P_ld 133 (.int (i32 317)) rfl (fun _ => rfl) ?_
    refine P_ca0 136 232 [.ref 189, .int (i32 317)] [] rfl (fun _ => rfl) rfl (D_need w (mO m [] [(54, upI (m.2 54) u1 u2), (55, upI (m.2 55) v1 0), (56, upI (m.2 56) v1 0)]) c N D (Cn_mO hm trivial ⟨(rE_ui (Cn_a hm 54) rfl r2), (rE_ui (Cn_a hm 55) rfl (l32 0 rfl)), (rE_ui (Cn_a hm 56) rfl (l32 0 rfl)), trivial⟩) 317 (l32 317 rfl)) (fun y14 n16 => ?_)
    exact dg_takeRoom_136 w c N D bb v1 q1 y14.2 n16 (jk [])
def rfl_takeRoom_93 (v1 : Int) (m : mR) : Option (Int × mR) :=
  bnd (rf_number 1 32 m) fun y17 =>
  rfl_takeRoom_105 v1 v1 y17.1 y17.2
theorem dg_takeRoom_93 (w : wX) (c : Nat → Option am_C) (N D : Nat) (bb : Nat) (v1 : Int) (q1 : R32 v1) (m : mR) (hm : Cn m) (j : Nat → Int) : PP bb w D pm_278 (93, [(0, .ref 189), (1, .int (i32 v1))], [], (mhp m c, N), 0, 0) (QS (FR0 c N) (rfl_takeRoom_93 v1 m)) := by
  unfold rfl_takeRoom_93
  show PP bb w D pm_278 (93, [(0, .ref 189), (1, .int (i32 v1))], [], (mhp (mO m [] []) c, N), 0, 0) _
  refine P_gf 97 (.ref 224) rfl rfl rfl rfl rfl rfl ?_
  refine P_ld 98 (.int (i32 v1)) rfl (fun _ => rfl) ?_
  refine P_ld 99 (.ref 189) rfl (fun _ => rfl) ?_
  refine P_ld 100 (.int (i32 1)) rfl (fun _ => rfl) ?_
  refine P_ld 102 (.int (i32 32)) rfl (fun _ => rfl) ?_
  refine P_ca1 105 234 [.ref 189, .int (i32 1), .int (i32 32)] [.int (i32 v1), .ref 224] rfl (fun _ => rfl) rfl (D_number w m c N D hm 1 32 (l32 1 rfl) (l32 32 rfl)) (fun y17 h18 n19 => ?_)
  exact dg_takeRoom_105 w c N D bb v1 v1 y17.1 q1 q1 h18 y17.2 n19 (jk [])
def rfl_takeRoom_7 (v1 : Int) (m : mR) : Option (Int × mR) :=
  if m.1 10 = 0 then
    if (m.2 58) v1 = 0 then
      rfl_takeRoom_93 v1 m
    else
      if m.1 7 = 2 then
        if cmp64 (m.1 12) 1 = 0 then
          rfl_takeRoom_93 v1 m
        else
          if cmp64 (m.1 12) 2 = 0 then
            rfl_takeRoom_93 v1 m
          else
            if cmp64 (m.1 12) 4 = 0 then
              rfl_takeRoom_93 v1 m
            else
              if cmp64 (m.1 12) 8 = 0 then
                rfl_takeRoom_93 v1 m
              else
                if cmp64 (m.1 12) 16 = 0 then
                  rfl_takeRoom_93 v1 m
                else
                  bnd (rf_wrong 5 (m.1 8) m) fun y28 =>
                  rfl_takeRoom_93 v1 y28.2
      else
        rfl_takeRoom_93 v1 m
  else
    rfl_takeRoom_93 v1 m
theorem dg_takeRoom_7 (w : wX) (c : Nat → Option am_C) (N D : Nat) (bb : Nat) (v1 : Int) (q1 : R32 v1) (m : mR) (hm : Cn m) (j : Nat → Int) : PP bb w D pm_278 (7, [(0, .ref 189), (1, .int (i32 v1))], [], (mhp m c, N), 0, 0) (QS (FR0 c N) (rfl_takeRoom_7 v1 m)) := by
  unfold rfl_takeRoom_7
  show PP bb w D pm_278 (7, [(0, .ref 189), (1, .int (i32 v1))], [], (mhp (mO m [] []) c, N), 0, 0) _
  refine P_gf 11 (.int (i32 (m.1 10))) rfl rfl rfl rfl rfl rfl ?_
  refine P_ifE 93 14 rfl rfl rfl (Cn_i hm 10 rfl) rfl (fun h20 => ?_) (fun h20 => ?_)
  · skip
    refine P_gf 18 (.ref 228) rfl rfl rfl rfl rfl rfl ?_
    refine P_ld 19 (.int (i32 v1)) rfl (fun _ => rfl) ?_
    refine P_bald2 20 58 (m.2 58) rfl rfl rfl q1 rfl ?_
    refine P_ifF 93 23 rfl rfl rfl (rE_i (Cn_a hm 58) rfl _) rfl (fun h21 => ?_) (fun h21 => ?_)
    · skip
      exact dg_takeRoom_93 w c N D bb v1 q1 m hm (jk [])
    · skip
      refine P_gf 27 (.int (i32 (m.1 7))) rfl rfl rfl rfl rfl rfl ?_
      refine P_ld 28 (.int (i32 2)) rfl (fun _ => rfl) ?_
      refine P_icE 93 31 rfl rfl rfl (Cn_i hm 7 rfl) (l32 2 rfl) rfl (fun h22 => ?_) (fun h22 => ?_)
      · skip
        refine P_gf 35 (.long (i64 (m.1 12))) rfl rfl rfl rfl rfl rfl ?_
        refine P_ld 36 (.long (i64 1)) rfl (fun _ => rfl) ?_
        refine P_op 37 (cmp64 (m.1 12) 1) _ rfl (fun _ => rfl) (o_cmp (Cn_l hm 12 rfl) (l64 1 rfl)) ?_
        refine P_ifF 93 40 rfl rfl rfl cmp64_r rfl (fun h23 => ?_) (fun h23 => ?_)
        · skip
          exact dg_takeRoom_93 w c N D bb v1 q1 m hm (jk [])
        · skip
          refine P_gf 44 (.long (i64 (m.1 12))) rfl rfl rfl rfl rfl rfl ?_
          refine P_ld 47 (.long (i64 2)) rfl (fun _ => rfl) ?_
          refine P_op 48 (cmp64 (m.1 12) 2) _ rfl (fun _ => rfl) (o_cmp (Cn_l hm 12 rfl) (l64 2 rfl)) ?_
          refine P_ifF 93 51 rfl rfl rfl cmp64_r rfl (fun h24 => ?_) (fun h24 => ?_)
          · skip
            exact dg_takeRoom_93 w c N D bb v1 q1 m hm (jk [])
          · skip
            refine P_gf 55 (.long (i64 (m.1 12))) rfl rfl rfl rfl rfl rfl ?_
            refine P_ld 58 (.long (i64 4)) rfl (fun _ => rfl) ?_
            refine P_op 59 (cmp64 (m.1 12) 4) _ rfl (fun _ => rfl) (o_cmp (Cn_l hm 12 rfl) (l64 4 rfl)) ?_
            refine P_ifF 93 62 rfl rfl rfl cmp64_r rfl (fun h25 => ?_) (fun h25 => ?_)
            · skip
              exact dg_takeRoom_93 w c N D bb v1 q1 m hm (jk [])
            · skip
              refine P_gf 66 (.long (i64 (m.1 12))) rfl rfl rfl rfl rfl rfl ?_
              refine P_ld 69 (.long (i64 8)) rfl (fun _ => rfl) ?_
              refine P_op 70 (cmp64 (m.1 12) 8) _ rfl (fun _ => rfl) (o_cmp (Cn_l hm 12 rfl) (l64 8 rfl)) ?_
              refine P_ifF 93 73 rfl rfl rfl cmp64_r rfl (fun h26 => ?_) (fun h26 => ?_)
              · skip
                exact dg_takeRoom_93 w c N D bb v1 q1 m hm (jk [])
              · skip
                refine P_gf 77 (.long (i64 (m.1 12))) rfl rfl rfl rfl rfl rfl ?_
                refine P_ld 80 (.long (i64 16)) rfl (fun _ => rfl) ?_
                refine P_op 81 (cmp64 (m.1 12) 16) _ rfl (fun _ => rfl) (o_cmp (Cn_l hm 12 rfl) (l64 16 rfl)) ?_
                refine P_ifF 93 84 rfl rfl rfl cmp64_r rfl (fun h27 => ?_) (fun h27 => ?_)
                · skip
                  exact dg_takeRoom_93 w c N D bb v1 q1 m hm (jk [])
                · skip
                  refine P_ld 85 (.ref 189) rfl (fun _ => rfl) ?_
                  refine P_ld 86 (.int (i32 5)) rfl (fun _ => rfl) ?_
                  refine P_gf 90 (.int (i32 (m.1 8))) rfl rfl rfl rfl rfl rfl ?_
                  refine P_ca0 93 222 [.ref 189, .int (i32 5), .int (i32 (m.1 8))] [] rfl (fun _ => rfl) rfl (D_wrong w m c N D hm 5 (m.1 8) (l32 5 rfl) (Cn_i hm 8 rfl)) (fun y28 n30 => ?_)
                  exact dg_takeRoom_93 w c N D bb v1 q1 y28.2 n30 (jk [])
      · skip
        exact dg_takeRoom_93 w c N D bb v1 q1 m hm (jk [])
  · skip
    exact dg_takeRoom_93 w c N D bb v1 q1 m hm (jk [])
def rf_takeRoom (v1 : Int) (m : mR) : Option (Int × mR) :=
  bnd (rf_need 316 m) fun y31 =>
  rfl_takeRoom_7 v1 y31.2
theorem D_takeRoom (w : wX) (m : mR) (c : Nat → Option am_C) (N D : Nat) (hm : Cn m) (v1 : Int) (q1 : R32 v1) : PC w D 278 [.ref 189, .int (i32 v1)] (mhp m c, N) (QS (FR0 c N) (rf_takeRoom v1 m)) := by
  refine Pc_of (fun D bb => ?_) D
  unfold rf_takeRoom
  show PP bb w D pm_278 (0, [(0, .ref 189), (1, .int (i32 v1))], [], (mhp (mO m [] []) c, N), 0, 0) _
  refine P_ld 1 (.ref 189) rfl (fun _ => rfl) ?_
  refine P_ld 4 (.int (i32 316)) rfl (fun _ => rfl) ?_
  refine P_ca0 7 232 [.ref 189, .int (i32 316)] [] rfl (fun _ => rfl) rfl (D_need w m c N D hm 316 (l32 316 rfl)) (fun y31 n33 => ?_)
  exact dg_takeRoom_7 w c N D bb v1 q1 y31.2 n33 (jk [])
end X26J
