noncomputable section X55DD
def cs_tb_match_b103_7 (B : oB) (s : Int × Int × Int) : Prop := R32 s.1 ∧ R32 s.2.1 ∧ R32 s.2.2
def cx_tb_match_b103_7 (B : oB) : (Int) → Prop := (fun (e : Int) => R32 e)
def hd_tb_match_b103_7 (B : oB) (c : Nat → Option am_C) (N : Nat) (v0 : Int) (v1 : Int) (m : mR) (s : Int × Int × Int) (j : Nat → Int) : ag_St af_T := (7, [(0, .ref (tbr v0)), (1, .ref (obo B v1 + (3 + 1))), (2, .int (i32 s.1)), (3, .int (i32 s.2.1)), (4, .int (i32 s.2.2)), (5, .int (i32 (j 5))), (6, .int (i32 (j 6))), (7, .int (i32 (j 7))), (8, .int (i32 (j 8)))], [], (khp m c, N), 0, 0)
def ex_tb_match_b103_7 (B : oB) (c : Nat → Option am_C) (N : Nat) (v0 : Int) (v1 : Int) (m : mR) : (Int) → (Nat → Int) → ag_St af_T := (fun (e : Int) (j : Nat → Int) => ((190, [(0, .ref (tbr (j 0))), (1, .ref (obo B (j 1) + (3 + 1))), (2, .int (i32 e)), (3, .int (i32 (j 3))), (4, .int (i32 (j 4))), (5, .int (i32 (j 5))), (6, .int (i32 (j 6))), (7, .int (i32 (j 7))), (8, .int (i32 (j 8)))], [], (khp m c, N), 0, 0) : ag_St af_T))
def cs_tb_match_b103_25 (B : oB) (s : Int × Int × Int) : Prop := R32 s.1 ∧ R32 s.2.1 ∧ R32 s.2.2
def cx_tb_match_b103_25 (B : oB) : (Int × Int) → Prop := (fun (e : Int × Int) => R32 e.1 ∧ R32 e.2)
def hd_tb_match_b103_25 (B : oB) (c : Nat → Option am_C) (N : Nat) (v0 : Int) (v1 : Int) (v2 : Int) (v3 : Int) (v4 : Int) (m : mR) (s : Int × Int × Int) (j : Nat → Int) : ag_St af_T := (25, [(0, .ref (tbr v0)), (1, .ref (obo B v1 + (3 + 1))), (2, .int (i32 v2)), (3, .int (i32 v3)), (4, .int (i32 v4)), (5, .int (i32 s.1)), (6, .int (i32 s.2.1)), (7, .int (i32 s.2.2)), (8, .int (i32 (j 8)))], [], (khp m c, N), 0, 0)
def ex_tb_match_b103_25 (B : oB) (c : Nat → Option am_C) (N : Nat) (v0 : Int) (v1 : Int) (v2 : Int) (v3 : Int) (v4 : Int) (m : mR) : (Int × Int) → (Nat → Int) → ag_St af_T := (fun (e : Int × Int) (j : Nat → Int) => ((116, [(0, .ref (tbr v0)), (1, .ref (obo B v1 + (3 + 1))), (2, .int (i32 v2)), (3, .int (i32 v3)), (4, .int (i32 v4)), (5, .int (i32 e.1)), (6, .int (i32 e.2)), (7, .int (i32 (j 7))), (8, .int (i32 (j 8)))], [], (khp m c, N), 0, 0) : ag_St af_T))
def kfl_tb_match_b103_184 (v0 : Int) (v1 : Int) (v2 : Int) (v3 : Int) (v4 : Int) (m : mR) : Option (Sum (Int × Int × Int) (Int)) :=
  some (.inl (v2, v3, cut (v4 + 1)))
theorem dg_tb_match_b103_184 (B : oB) (w : wX) (c : Nat → Option am_C) (N D : Nat) (bb : Nat) (v0 : Int) (v1 : Int) (v2 : Int) (v3 : Int) (v4 : Int) (q0 : Rt v0) (q1 : OKo B v1) (q2 : R32 v2) (q3 : R32 v3) (q4 : R32 v4) (m : mR) (hm : KCo B m) (j : Nat → Int) (Q2 : Sum (Int × Int × Int) (Int) → ag_Re af_T → Prop) (H1 : ∀ s j, cs_tb_match_b103_7 B s → PP bb w D pm_196 (hd_tb_match_b103_7 B c N v0 v1 m s j) (Q2 (.inl s))) (H2 : ∀ x j, cx_tb_match_b103_7 B x → PP bb w D pm_196 (ex_tb_match_b103_7 B c N v0 v1 m x j) (Q2 (.inr x))) : PP bb w D pm_196 (184, [(0, .ref (tbr v0)), (1, .ref (obo B v1 + (3 + 1))), (2, .int (i32 v2)), (3, .int (i32 v3)), (4, .int (i32 v4)), (5, .int (i32 (j 5))), (6, .int (i32 (j 6))), (7, .int (i32 (j 7))), (8, .int (i32 (j 8)))], [], (khp m c, N), 0, 0) (QS Q2 (kfl_tb_match_b103_184 v0 v1 v2 v3 v4 m)) := by
  unfold kfl_tb_match_b103_184
  show PP bb w D pm_196 (184, [(0, .ref (tbr v0)), (1, .ref (obo B v1 + (3 + 1))), (2, .int (i32 v2)), (3, .int (i32 v3)), (4, .int (i32 v4)), (5, .int (i32 (j 5))), (6, .int (i32 (j 6))), (7, .int (i32 (j 7))), (8, .int (i32 (j 8)))], [], (khp (mO m [] []) c, N), 0, 0) _
  refine P_inc 187 [(4, .int (i32 (cut (v4 + 1)))), (0, .ref (tbr v0)), (1, .ref (obo B v1 + (3 + 1))), (2, .int (i32 v2)), (3, .int (i32 v3)), (5, .int (i32 (j 5))), (6, .int (i32 (j 6))), (7, .int (i32 (j 7))), (8, .int (i32 (j 8)))] rfl rfl (by decide) rfl rfl ?_
  refine P_goto 7 rfl (fun _ => rfl) ?_
  refine P_some ?_
  refine P_lv (b := [(0, .ref (tbr v0)), (1, .ref (obo B v1 + (3 + 1))), (2, .int (i32 v2)), (3, .int (i32 v3)), (4, .int (i32 (cut (v4 + 1)))), (5, .int (i32 (j 5))), (6, .int (i32 (j 6))), (7, .int (i32 (j 7))), (8, .int (i32 (j 8)))]) rfl rfl ⟨rfl, rfl, rfl, rfl, rfl, rfl, rfl, rfl, rfl, trivial⟩ ?_
  exact H1 (v2, v3, cut (v4 + 1)) (jk [(5, j 5), (6, j 6), (7, j 7), (8, j 8)]) ⟨q2, q3, cut_r⟩
def kfl_tb_match_b103_166 (v0 : Int) (v1 : Int) (v2 : Int) (v3 : Int) (v4 : Int) (v5 : Int) (v6 : Int) (u0 : Int) (m : mR) : Option (Sum (Int × Int × Int) (Int)) :=
  if v5 = 0 then
    kfl_tb_match_b103_184 v0 v1 v2 v3 v4 m
  else
    if u0 = 0 then
      kfl_tb_match_b103_184 v0 v1 v2 v3 v4 m
    else
      kfl_tb_match_b103_184 v0 v1 v4 v6 v4 m
theorem dg_tb_match_b103_166 (B : oB) (w : wX) (c : Nat → Option am_C) (N D : Nat) (bb : Nat) (v0 : Int) (v1 : Int) (v2 : Int) (v3 : Int) (v4 : Int) (v5 : Int) (v6 : Int) (u0 : Int) (q0 : Rt v0) (q1 : OKo B v1) (q2 : R32 v2) (q3 : R32 v3) (q4 : R32 v4) (q5 : R32 v5) (q6 : R32 v6) (r0 : R32 u0) (m : mR) (hm : KCo B m) (j : Nat → Int) (Q2 : Sum (Int × Int × Int) (Int) → ag_Re af_T → Prop) (H1 : ∀ s j, cs_tb_match_b103_7 B s → PP bb w D pm_196 (hd_tb_match_b103_7 B c N v0 v1 m s j) (Q2 (.inl s))) (H2 : ∀ x j, cx_tb_match_b103_7 B x → PP bb w D pm_196 (ex_tb_match_b103_7 B c N v0 v1 m x j) (Q2 (.inr x))) : PP bb w D pm_196 (166, [(0, .ref (tbr v0)), (1, .ref (obo B v1 + (3 + 1))), (2, .int (i32 v2)), (3, .int (i32 v3)), (4, .int (i32 v4)), (5, .int (i32 v5)), (6, .int (i32 v6)), (7, .int (i32 (j 7))), (8, .int (i32 (j 8)))], [.int (i32 u0)], (khp m c, N), 0, 0) (QS Q2 (kfl_tb_match_b103_166 v0 v1 v2 v3 v4 v5 v6 u0 m)) := by
  unfold kfl_tb_match_b103_166
  show PP bb w D pm_196 (166, [(0, .ref (tbr v0)), (1, .ref (obo B v1 + (3 + 1))), (2, .int (i32 v2)), (3, .int (i32 v3)), (4, .int (i32 v4)), (5, .int (i32 v5)), (6, .int (i32 v6)), (7, .int (i32 (j 7))), (8, .int (i32 (j 8)))], [.int (i32 u0)], (khp (mO m [] []) c, N), 0, 0) _
  refine P_sto 168 [(8, .int (i32 u0)), (0, .ref (tbr v0)), (1, .ref (obo B v1 + (3 + 1))), (2, .int (i32 v2)), (3, .int (i32 v3)), (4, .int (i32 v4)), (5, .int (i32 v5)), (6, .int (i32 v6)), (7, .int (i32 (j 7)))] rfl (fun _ => rfl) ?_
  refine P_ld 170 (.int (i32 v5)) rfl (fun _ => rfl) ?_
  refine P_ifF 184 173 rfl rfl rfl q5 rfl (fun h4 => ?_) (fun h4 => ?_)
  · skip
    refine P_lv (b := [(0, .ref (tbr v0)), (1, .ref (obo B v1 + (3 + 1))), (2, .int (i32 v2)), (3, .int (i32 v3)), (4, .int (i32 v4)), (5, .int (i32 v5)), (6, .int (i32 v6)), (7, .int (i32 (j 7))), (8, .int (i32 u0))]) rfl rfl ⟨rfl, rfl, rfl, rfl, rfl, rfl, rfl, rfl, rfl, trivial⟩ ?_
    exact dg_tb_match_b103_184 B w c N D bb v0 v1 v2 v3 v4 q0 q1 q2 q3 q4 m hm (jk [(5, v5), (6, v6), (7, j 7), (8, u0)]) Q2 H1 H2
  · skip
    refine P_ld 175 (.int (i32 u0)) rfl (fun _ => rfl) ?_
    refine P_ifF 184 178 rfl rfl rfl r0 rfl (fun h5 => ?_) (fun h5 => ?_)
    · skip
      refine P_lv (b := [(0, .ref (tbr v0)), (1, .ref (obo B v1 + (3 + 1))), (2, .int (i32 v2)), (3, .int (i32 v3)), (4, .int (i32 v4)), (5, .int (i32 v5)), (6, .int (i32 v6)), (7, .int (i32 (j 7))), (8, .int (i32 u0))]) rfl rfl ⟨rfl, rfl, rfl, rfl, rfl, rfl, rfl, rfl, rfl, trivial⟩ ?_
      exact dg_tb_match_b103_184 B w c N D bb v0 v1 v2 v3 v4 q0 q1 q2 q3 q4 m hm (jk [(5, v5), (6, v6), (7, j 7), (8, u0)]) Q2 H1 H2
    · skip
      refine P_ld 180 (.int (i32 v4)) rfl (fun _ => rfl) ?_
      refine P_sto 181 [(2, .int (i32 v4)), (8, .int (i32 u0)), (0, .ref (tbr v0)), (1, .ref (obo B v1 + (3 + 1))), (3, .int (i32 v3)), (4, .int (i32 v4)), (5, .int (i32 v5)), (6, .int (i32 v6)), (7, .int (i32 (j 7)))] rfl (fun _ => rfl) ?_
      refine P_ld 183 (.int (i32 v6)) rfl (fun _ => rfl) ?_
      refine P_sto 184 [(3, .int (i32 v6)), (2, .int (i32 v4)), (8, .int (i32 u0)), (0, .ref (tbr v0)), (1, .ref (obo B v1 + (3 + 1))), (4, .int (i32 v4)), (5, .int (i32 v5)), (6, .int (i32 v6)), (7, .int (i32 (j 7)))] rfl (fun _ => rfl) ?_
      refine P_lv (b := [(0, .ref (tbr v0)), (1, .ref (obo B v1 + (3 + 1))), (2, .int (i32 v4)), (3, .int (i32 v6)), (4, .int (i32 v4)), (5, .int (i32 v5)), (6, .int (i32 v6)), (7, .int (i32 (j 7))), (8, .int (i32 u0))]) rfl rfl ⟨rfl, rfl, rfl, rfl, rfl, rfl, rfl, rfl, rfl, trivial⟩ ?_
      exact dg_tb_match_b103_184 B w c N D bb v0 v1 v4 v6 v4 q0 q1 q4 q6 q4 m hm (jk [(5, v5), (6, v6), (7, j 7), (8, u0)]) Q2 H1 H2
def kfl_tb_match_b103_165 (v0 : Int) (v1 : Int) (v2 : Int) (v3 : Int) (v4 : Int) (v5 : Int) (v6 : Int) (m : mR) : Option (Sum (Int × Int × Int) (Int)) :=
  kfl_tb_match_b103_166 v0 v1 v2 v3 v4 v5 v6 0 m
theorem dg_tb_match_b103_165 (B : oB) (w : wX) (c : Nat → Option am_C) (N D : Nat) (bb : Nat) (v0 : Int) (v1 : Int) (v2 : Int) (v3 : Int) (v4 : Int) (v5 : Int) (v6 : Int) (q0 : Rt v0) (q1 : OKo B v1) (q2 : R32 v2) (q3 : R32 v3) (q4 : R32 v4) (q5 : R32 v5) (q6 : R32 v6) (m : mR) (hm : KCo B m) (j : Nat → Int) (Q2 : Sum (Int × Int × Int) (Int) → ag_Re af_T → Prop) (H1 : ∀ s j, cs_tb_match_b103_7 B s → PP bb w D pm_196 (hd_tb_match_b103_7 B c N v0 v1 m s j) (Q2 (.inl s))) (H2 : ∀ x j, cx_tb_match_b103_7 B x → PP bb w D pm_196 (ex_tb_match_b103_7 B c N v0 v1 m x j) (Q2 (.inr x))) : PP bb w D pm_196 (165, [(0, .ref (tbr v0)), (1, .ref (obo B v1 + (3 + 1))), (2, .int (i32 v2)), (3, .int (i32 v3)), (4, .int (i32 v4)), (5, .int (i32 v5)), (6, .int (i32 v6)), (7, .int (i32 (j 7))), (8, .int (i32 (j 8)))], [], (khp m c, N), 0, 0) (QS Q2 (kfl_tb_match_b103_165 v0 v1 v2 v3 v4 v5 v6 m)) := by
  unfold kfl_tb_match_b103_165
  show PP bb w D pm_196 (165, [(0, .ref (tbr v0)), (1, .ref (obo B v1 + (3 + 1))), (2, .int (i32 v2)), (3, .int (i32 v3)), (4, .int (i32 v4)), (5, .int (i32 v5)), (6, .int (i32 v6)), (7, .int (i32 (j 7))), (8, .int (i32 (j 8)))], [], (khp (mO m [] []) c, N), 0, 0) _
  refine P_ld 166 (.int (i32 0)) rfl (fun _ => rfl) ?_
  exact dg_tb_match_b103_166 B w c N D bb v0 v1 v2 v3 v4 v5 v6 0 q0 q1 q2 q3 q4 q5 q6 (l32 0 rfl) m hm (jk [(7, j 7), (8, j 8)]) Q2 H1 H2
def kfl_tb_match_b103_161 (v0 : Int) (v1 : Int) (v2 : Int) (v3 : Int) (v4 : Int) (v5 : Int) (v6 : Int) (m : mR) : Option (Sum (Int × Int × Int) (Int)) :=
  kfl_tb_match_b103_166 v0 v1 v2 v3 v4 v5 v6 1 m
theorem dg_tb_match_b103_161 (B : oB) (w : wX) (c : Nat → Option am_C) (N D : Nat) (bb : Nat) (v0 : Int) (v1 : Int) (v2 : Int) (v3 : Int) (v4 : Int) (v5 : Int) (v6 : Int) (q0 : Rt v0) (q1 : OKo B v1) (q2 : R32 v2) (q3 : R32 v3) (q4 : R32 v4) (q5 : R32 v5) (q6 : R32 v6) (m : mR) (hm : KCo B m) (j : Nat → Int) (Q2 : Sum (Int × Int × Int) (Int) → ag_Re af_T → Prop) (H1 : ∀ s j, cs_tb_match_b103_7 B s → PP bb w D pm_196 (hd_tb_match_b103_7 B c N v0 v1 m s j) (Q2 (.inl s))) (H2 : ∀ x j, cx_tb_match_b103_7 B x → PP bb w D pm_196 (ex_tb_match_b103_7 B c N v0 v1 m x j) (Q2 (.inr x))) : PP bb w D pm_196 (161, [(0, .ref (tbr v0)), (1, .ref (obo B v1 + (3 + 1))), (2, .int (i32 v2)), (3, .int (i32 v3)), (4, .int (i32 v4)), (5, .int (i32 v5)), (6, .int (i32 v6)), (7, .int (i32 (j 7))), (8, .int (i32 (j 8)))], [], (khp m c, N), 0, 0) (QS Q2 (kfl_tb_match_b103_161 v0 v1 v2 v3 v4 v5 v6 m)) := by
  unfold kfl_tb_match_b103_161
  show PP bb w D pm_196 (161, [(0, .ref (tbr v0)), (1, .ref (obo B v1 + (3 + 1))), (2, .int (i32 v2)), (3, .int (i32 v3)), (4, .int (i32 v4)), (5, .int (i32 v5)), (6, .int (i32 v6)), (7, .int (i32 (j 7))), (8, .int (i32 (j 8)))], [], (khp (mO m [] []) c, N), 0, 0) _
  refine P_ld 162 (.int (i32 1)) rfl (fun _ => rfl) ?_
  refine P_goto 166 rfl (fun _ => rfl) ?_
  exact dg_tb_match_b103_166 B w c N D bb v0 v1 v2 v3 v4 v5 v6 1 q0 q1 q2 q3 q4 q5 q6 (l32 1 rfl) m hm (jk [(7, j 7), (8, j 8)]) Q2 H1 H2
def kfl_tb_match_b103_132 (v0 : Int) (v1 : Int) (v2 : Int) (v3 : Int) (v4 : Int) (v5 : Int) (v6 : Int) (u0 : Int) (m : mR) : Option (Sum (Int × Int × Int) (Int)) :=
  if u0 = 0 then
    if v6 = v3 then
      if (m.2 88) (65536 * v0 + v4) ≤ (m.2 88) (65536 * v0 + v2) then
        kfl_tb_match_b103_165 v0 v1 v2 v3 v4 v5 v6 m
      else
        kfl_tb_match_b103_161 v0 v1 v2 v3 v4 v5 v6 m
    else
      kfl_tb_match_b103_165 v0 v1 v2 v3 v4 v5 v6 m
  else
    kfl_tb_match_b103_161 v0 v1 v2 v3 v4 v5 v6 m
theorem dg_tb_match_b103_132 (B : oB) (w : wX) (c : Nat → Option am_C) (N D : Nat) (bb : Nat) (v0 : Int) (v1 : Int) (v2 : Int) (v3 : Int) (v4 : Int) (v5 : Int) (v6 : Int) (u0 : Int) (q0 : Rt v0) (q1 : OKo B v1) (q2 : R32 v2) (q3 : R32 v3) (q4 : R32 v4) (q5 : R32 v5) (q6 : R32 v6) (r0 : R32 u0) (m : mR) (hm : KCo B m) (j : Nat → Int) (Q2 : Sum (Int × Int × Int) (Int) → ag_Re af_T → Prop) (H1 : ∀ s j, cs_tb_match_b103_7 B s → PP bb w D pm_196 (hd_tb_match_b103_7 B c N v0 v1 m s j) (Q2 (.inl s))) (H2 : ∀ x j, cx_tb_match_b103_7 B x → PP bb w D pm_196 (ex_tb_match_b103_7 B c N v0 v1 m x j) (Q2 (.inr x))) : PP bb w D pm_196 (132, [(0, .ref (tbr v0)), (1, .ref (obo B v1 + (3 + 1))), (2, .int (i32 v2)), (3, .int (i32 v3)), (4, .int (i32 v4)), (5, .int (i32 v5)), (6, .int (i32 v6)), (7, .int (i32 (j 7))), (8, .int (i32 (j 8)))], [.int (i32 u0)], (khp m c, N), 0, 0) (QS Q2 (kfl_tb_match_b103_132 v0 v1 v2 v3 v4 v5 v6 u0 m)) := by
  unfold kfl_tb_match_b103_132
  show PP bb w D pm_196 (132, [(0, .ref (tbr v0)), (1, .ref (obo B v1 + (3 + 1))), (2, .int (i32 v2)), (3, .int (i32 v3)), (4, .int (i32 v4)), (5, .int (i32 v5)), (6, .int (i32 v6)), (7, .int (i32 (j 7))), (8, .int (i32 (j 8)))], [.int (i32 u0)], (khp (mO m [] []) c, N), 0, 0) _
  refine P_sto 134 [(7, .int (i32 u0)), (0, .ref (tbr v0)), (1, .ref (obo B v1 + (3 + 1))), (2, .int (i32 v2)), (3, .int (i32 v3)), (4, .int (i32 v4)), (5, .int (i32 v5)), (6, .int (i32 v6)), (8, .int (i32 (j 8)))] rfl (fun _ => rfl) ?_
  refine P_ld 136 (.int (i32 u0)) rfl (fun _ => rfl) ?_
  refine P_ifE 161 139 rfl rfl rfl r0 rfl (fun h6 => ?_) (fun h6 => ?_)
  · skip
    refine P_ld 141 (.int (i32 v6)) rfl (fun _ => rfl) ?_
    refine P_ld 142 (.int (i32 v3)) rfl (fun _ => rfl) ?_
    refine P_icE 165 145 rfl rfl rfl q6 q3 rfl (fun h7 => ?_) (fun h7 => ?_)
    · skip
      refine P_ld 146 (.ref (tbr v0)) rfl (fun _ => rfl) ?_
      refine PK_gfr 149 rfl rfl q0.1 q0.2 rfl ?_
      refine P_ld 151 (.int (i32 v4)) rfl (fun _ => rfl) ?_
      refine PK_ialt2 152 9 (m.2 88) rfl rfl rfl q0 q4 rfl ?_
      refine P_ld 153 (.ref (tbr v0)) rfl (fun _ => rfl) ?_
      refine PK_gfr 156 rfl rfl q0.1 q0.2 rfl ?_
      refine P_ld 157 (.int (i32 v2)) rfl (fun _ => rfl) ?_
      refine PK_ialt2 158 9 (m.2 88) rfl rfl rfl q0 q2 rfl ?_
      refine P_icF 165 161 rfl rfl rfl (kE_i (KCn_a hm.1 88) rfl _) (kE_i (KCn_a hm.1 88) rfl _) rfl (fun h8 => ?_) (fun h8 => ?_)
      · skip
        refine P_lv (b := [(0, .ref (tbr v0)), (1, .ref (obo B v1 + (3 + 1))), (2, .int (i32 v2)), (3, .int (i32 v3)), (4, .int (i32 v4)), (5, .int (i32 v5)), (6, .int (i32 v6)), (7, .int (i32 u0)), (8, .int (i32 (j 8)))]) rfl rfl ⟨rfl, rfl, rfl, rfl, rfl, rfl, rfl, rfl, rfl, trivial⟩ ?_
        exact dg_tb_match_b103_165 B w c N D bb v0 v1 v2 v3 v4 v5 v6 q0 q1 q2 q3 q4 q5 q6 m hm (jk [(7, u0), (8, j 8)]) Q2 H1 H2
      · skip
        refine P_lv (b := [(0, .ref (tbr v0)), (1, .ref (obo B v1 + (3 + 1))), (2, .int (i32 v2)), (3, .int (i32 v3)), (4, .int (i32 v4)), (5, .int (i32 v5)), (6, .int (i32 v6)), (7, .int (i32 u0)), (8, .int (i32 (j 8)))]) rfl rfl ⟨rfl, rfl, rfl, rfl, rfl, rfl, rfl, rfl, rfl, trivial⟩ ?_
        exact dg_tb_match_b103_161 B w c N D bb v0 v1 v2 v3 v4 v5 v6 q0 q1 q2 q3 q4 q5 q6 m hm (jk [(7, u0), (8, j 8)]) Q2 H1 H2
    · skip
      refine P_lv (b := [(0, .ref (tbr v0)), (1, .ref (obo B v1 + (3 + 1))), (2, .int (i32 v2)), (3, .int (i32 v3)), (4, .int (i32 v4)), (5, .int (i32 v5)), (6, .int (i32 v6)), (7, .int (i32 u0)), (8, .int (i32 (j 8)))]) rfl rfl ⟨rfl, rfl, rfl, rfl, rfl, rfl, rfl, rfl, rfl, trivial⟩ ?_
      exact dg_tb_match_b103_165 B w c N D bb v0 v1 v2 v3 v4 v5 v6 q0 q1 q2 q3 q4 q5 q6 m hm (jk [(7, u0), (8, j 8)]) Q2 H1 H2
  · skip
    refine P_lv (b := [(0, .ref (tbr v0)), (1, .ref (obo B v1 + (3 + 1))), (2, .int (i32 v2)), (3, .int (i32 v3)), (4, .int (i32 v4)), (5, .int (i32 v5)), (6, .int (i32 v6)), (7, .int (i32 u0)), (8, .int (i32 (j 8)))]) rfl rfl ⟨rfl, rfl, rfl, rfl, rfl, rfl, rfl, rfl, rfl, trivial⟩ ?_
    exact dg_tb_match_b103_161 B w c N D bb v0 v1 v2 v3 v4 v5 v6 q0 q1 q2 q3 q4 q5 q6 m hm (jk [(7, u0), (8, j 8)]) Q2 H1 H2
def kfl_tb_match_b103_127 (v0 : Int) (v1 : Int) (v2 : Int) (v3 : Int) (v4 : Int) (v5 : Int) (v6 : Int) (m : mR) : Option (Sum (Int × Int × Int) (Int)) :=
  kfl_tb_match_b103_132 v0 v1 v2 v3 v4 v5 v6 1 m
theorem dg_tb_match_b103_127 (B : oB) (w : wX) (c : Nat → Option am_C) (N D : Nat) (bb : Nat) (v0 : Int) (v1 : Int) (v2 : Int) (v3 : Int) (v4 : Int) (v5 : Int) (v6 : Int) (q0 : Rt v0) (q1 : OKo B v1) (q2 : R32 v2) (q3 : R32 v3) (q4 : R32 v4) (q5 : R32 v5) (q6 : R32 v6) (m : mR) (hm : KCo B m) (j : Nat → Int) (Q2 : Sum (Int × Int × Int) (Int) → ag_Re af_T → Prop) (H1 : ∀ s j, cs_tb_match_b103_7 B s → PP bb w D pm_196 (hd_tb_match_b103_7 B c N v0 v1 m s j) (Q2 (.inl s))) (H2 : ∀ x j, cx_tb_match_b103_7 B x → PP bb w D pm_196 (ex_tb_match_b103_7 B c N v0 v1 m x j) (Q2 (.inr x))) : PP bb w D pm_196 (127, [(0, .ref (tbr v0)), (1, .ref (obo B v1 + (3 + 1))), (2, .int (i32 v2)), (3, .int (i32 v3)), (4, .int (i32 v4)), (5, .int (i32 v5)), (6, .int (i32 v6)), (7, .int (i32 (j 7))), (8, .int (i32 (j 8)))], [], (khp m c, N), 0, 0) (QS Q2 (kfl_tb_match_b103_127 v0 v1 v2 v3 v4 v5 v6 m)) := by
  unfold kfl_tb_match_b103_127
  show PP bb w D pm_196 (127, [(0, .ref (tbr v0)), (1, .ref (obo B v1 + (3 + 1))), (2, .int (i32 v2)), (3, .int (i32 v3)), (4, .int (i32 v4)), (5, .int (i32 v5)), (6, .int (i32 v6)), (7, .int (i32 (j 7))), (8, .int (i32 (j 8)))], [], (khp (mO m [] []) c, N), 0, 0) _
  refine P_ld 128 (.int (i32 1)) rfl (fun _ => rfl) ?_
  refine P_goto 132 rfl (fun _ => rfl) ?_
  exact dg_tb_match_b103_132 B w c N D bb v0 v1 v2 v3 v4 v5 v6 1 q0 q1 q2 q3 q4 q5 q6 (l32 1 rfl) m hm (jk [(7, j 7), (8, j 8)]) Q2 H1 H2
def kfl_tb_match_b103_116 (v0 : Int) (v1 : Int) (v2 : Int) (v3 : Int) (v4 : Int) (v5 : Int) (v6 : Int) (m : mR) : Option (Sum (Int × Int × Int) (Int)) :=
  if v2 = (-1) then
    kfl_tb_match_b103_127 v0 v1 v2 v3 v4 v5 v6 m
  else
    if v6 ≤ v3 then
      kfl_tb_match_b103_132 v0 v1 v2 v3 v4 v5 v6 0 m
    else
      kfl_tb_match_b103_127 v0 v1 v2 v3 v4 v5 v6 m
theorem dg_tb_match_b103_116 (B : oB) (w : wX) (c : Nat → Option am_C) (N D : Nat) (bb : Nat) (v0 : Int) (v1 : Int) (v2 : Int) (v3 : Int) (v4 : Int) (v5 : Int) (v6 : Int) (q0 : Rt v0) (q1 : OKo B v1) (q2 : R32 v2) (q3 : R32 v3) (q4 : R32 v4) (q5 : R32 v5) (q6 : R32 v6) (m : mR) (hm : KCo B m) (j : Nat → Int) (Q2 : Sum (Int × Int × Int) (Int) → ag_Re af_T → Prop) (H1 : ∀ s j, cs_tb_match_b103_7 B s → PP bb w D pm_196 (hd_tb_match_b103_7 B c N v0 v1 m s j) (Q2 (.inl s))) (H2 : ∀ x j, cx_tb_match_b103_7 B x → PP bb w D pm_196 (ex_tb_match_b103_7 B c N v0 v1 m x j) (Q2 (.inr x))) : PP bb w D pm_196 (116, [(0, .ref (tbr v0)), (1, .ref (obo B v1 + (3 + 1))), (2, .int (i32 v2)), (3, .int (i32 v3)), (4, .int (i32 v4)), (5, .int (i32 v5)), (6, .int (i32 v6)), (7, .int (i32 (j 7))), (8, .int (i32 (j 8)))], [], (khp m c, N), 0, 0) (QS Q2 (kfl_tb_match_b103_116 v0 v1 v2 v3 v4 v5 v6 m)) := by
  unfold kfl_tb_match_b103_116
  show PP bb w D pm_196 (116, [(0, .ref (tbr v0)), (1, .ref (obo B v1 + (3 + 1))), (2, .int (i32 v2)), (3, .int (i32 v3)), (4, .int (i32 v4)), (5, .int (i32 v5)), (6, .int (i32 v6)), (7, .int (i32 (j 7))), (8, .int (i32 (j 8)))], [], (khp (mO m [] []) c, N), 0, 0) _
  refine P_ld 117 (.int (i32 v2)) rfl (fun _ => rfl) ?_
  refine P_ld 118 (.int (i32 (-1))) rfl (fun _ => rfl) ?_
  refine P_icF 127 121 rfl rfl rfl q2 (l32 (-1) rfl) rfl (fun h9 => ?_) (fun h9 => ?_)
  · skip
    exact dg_tb_match_b103_127 B w c N D bb v0 v1 v2 v3 v4 v5 v6 q0 q1 q2 q3 q4 q5 q6 m hm (jk [(7, j 7), (8, j 8)]) Q2 H1 H2
  · skip
    refine P_ld 123 (.int (i32 v6)) rfl (fun _ => rfl) ?_
    refine P_ld 124 (.int (i32 v3)) rfl (fun _ => rfl) ?_
    refine P_icF 131 127 rfl rfl rfl q6 q3 rfl (fun h10 => ?_) (fun h10 => ?_)
    · skip
      refine P_ld 132 (.int (i32 0)) rfl (fun _ => rfl) ?_
      exact dg_tb_match_b103_132 B w c N D bb v0 v1 v2 v3 v4 v5 v6 0 q0 q1 q2 q3 q4 q5 q6 (l32 0 rfl) m hm (jk [(7, j 7), (8, j 8)]) Q2 H1 H2
    · skip
      exact dg_tb_match_b103_127 B w c N D bb v0 v1 v2 v3 v4 v5 v6 q0 q1 q2 q3 q4 q5 q6 m hm (jk [(7, j 7), (8, j 8)]) Q2 H1 H2
def kfl_tb_match_b103_107 (v0 : Int) (v1 : Int) (v2 : Int) (v3 : Int) (v4 : Int) (v5 : Int) (v7 : Int) (u0 : Int) (u1 : Int) (m : mR) : Option (Sum (Int × Int × Int) (Int × Int)) :=
  some (.inl (v5, cut (u0 + u1), cut (v7 + 1)))
theorem dg_tb_match_b103_107 (B : oB) (w : wX) (c : Nat → Option am_C) (N D : Nat) (bb : Nat) (v0 : Int) (v1 : Int) (v2 : Int) (v3 : Int) (v4 : Int) (v5 : Int) (v7 : Int) (u0 : Int) (u1 : Int) (q0 : Rt v0) (q1 : OKo B v1) (q2 : R32 v2) (q3 : R32 v3) (q4 : R32 v4) (q5 : R32 v5) (q7 : R32 v7) (r0 : R32 u0) (r1 : R32 u1) (m : mR) (hm : KCo B m) (j : Nat → Int) (Q2 : Sum (Int × Int × Int) (Int × Int) → ag_Re af_T → Prop) (H1 : ∀ s j, cs_tb_match_b103_25 B s → PP bb w D pm_196 (hd_tb_match_b103_25 B c N v0 v1 v2 v3 v4 m s j) (Q2 (.inl s))) (H2 : ∀ x j, cx_tb_match_b103_25 B x → PP bb w D pm_196 (ex_tb_match_b103_25 B c N v0 v1 v2 v3 v4 m x j) (Q2 (.inr x))) : PP bb w D pm_196 (107, [(0, .ref (tbr v0)), (1, .ref (obo B v1 + (3 + 1))), (2, .int (i32 v2)), (3, .int (i32 v3)), (4, .int (i32 v4)), (5, .int (i32 v5)), (6, .int (i32 (j 6))), (7, .int (i32 v7)), (8, .int (i32 (j 8)))], [.int (i32 u1), .int (i32 u0)], (khp m c, N), 0, 0) (QS Q2 (kfl_tb_match_b103_107 v0 v1 v2 v3 v4 v5 v7 u0 u1 m)) := by
  unfold kfl_tb_match_b103_107
  show PP bb w D pm_196 (107, [(0, .ref (tbr v0)), (1, .ref (obo B v1 + (3 + 1))), (2, .int (i32 v2)), (3, .int (i32 v3)), (4, .int (i32 v4)), (5, .int (i32 v5)), (6, .int (i32 (j 6))), (7, .int (i32 v7)), (8, .int (i32 (j 8)))], [.int (i32 u1), .int (i32 u0)], (khp (mO m [] []) c, N), 0, 0) _
  refine P_op 108 (cut (u0 + u1)) _ rfl (fun _ => rfl) o_add ?_
  refine P_sto 110 [(6, .int (i32 (cut (u0 + u1)))), (0, .ref (tbr v0)), (1, .ref (obo B v1 + (3 + 1))), (2, .int (i32 v2)), (3, .int (i32 v3)), (4, .int (i32 v4)), (5, .int (i32 v5)), (7, .int (i32 v7)), (8, .int (i32 (j 8)))] rfl (fun _ => rfl) ?_
  refine P_inc 113 [(7, .int (i32 (cut (v7 + 1)))), (6, .int (i32 (cut (u0 + u1)))), (0, .ref (tbr v0)), (1, .ref (obo B v1 + (3 + 1))), (2, .int (i32 v2)), (3, .int (i32 v3)), (4, .int (i32 v4)), (5, .int (i32 v5)), (8, .int (i32 (j 8)))] rfl rfl (by decide) rfl rfl ?_
  refine P_goto 25 rfl (fun _ => rfl) ?_
  refine P_some ?_
  refine P_lv (b := [(0, .ref (tbr v0)), (1, .ref (obo B v1 + (3 + 1))), (2, .int (i32 v2)), (3, .int (i32 v3)), (4, .int (i32 v4)), (5, .int (i32 v5)), (6, .int (i32 (cut (u0 + u1)))), (7, .int (i32 (cut (v7 + 1)))), (8, .int (i32 (j 8)))]) rfl rfl ⟨rfl, rfl, rfl, rfl, rfl, rfl, rfl, rfl, rfl, trivial⟩ ?_
  exact H1 (v5, cut (u0 + u1), cut (v7 + 1)) (jk [(8, j 8)]) ⟨q5, cut_r, cut_r⟩
def kfl_tb_match_b103_75 (v0 : Int) (v1 : Int) (v2 : Int) (v3 : Int) (v4 : Int) (v6 : Int) (v7 : Int) (v8 : Int) (u0 : Int) (u1 : Int) (m : mR) : Option (Sum (Int × Int × Int) (Int × Int)) :=
  if (m.2 81) (65536 * v0 + v7) = 313 then
    bnd (kf_Long_bitCount ((m.2 86) (65536 * v0 + v8)) m) fun y12 =>
    kfl_tb_match_b103_107 v0 v1 v2 v3 v4 (and32 u0 u1) v7 v6 y12 m
  else
    kfl_tb_match_b103_107 v0 v1 v2 v3 v4 (and32 u0 u1) v7 v6 0 m
theorem dg_tb_match_b103_75 (B : oB) (w : wX) (c : Nat → Option am_C) (N D : Nat) (bb : Nat) (v0 : Int) (v1 : Int) (v2 : Int) (v3 : Int) (v4 : Int) (v6 : Int) (v7 : Int) (v8 : Int) (u0 : Int) (u1 : Int) (q0 : Rt v0) (q1 : OKo B v1) (q2 : R32 v2) (q3 : R32 v3) (q4 : R32 v4) (q6 : R32 v6) (q7 : R32 v7) (q8 : R32 v8) (r0 : R32 u0) (r1 : R32 u1) (m : mR) (hm : KCo B m) (j : Nat → Int) (Q2 : Sum (Int × Int × Int) (Int × Int) → ag_Re af_T → Prop) (H1 : ∀ s j, cs_tb_match_b103_25 B s → PP bb w D pm_196 (hd_tb_match_b103_25 B c N v0 v1 v2 v3 v4 m s j) (Q2 (.inl s))) (H2 : ∀ x j, cx_tb_match_b103_25 B x → PP bb w D pm_196 (ex_tb_match_b103_25 B c N v0 v1 v2 v3 v4 m x j) (Q2 (.inr x))) : PP bb w D pm_196 (75, [(0, .ref (tbr v0)), (1, .ref (obo B v1 + (3 + 1))), (2, .int (i32 v2)), (3, .int (i32 v3)), (4, .int (i32 v4)), (5, .int (i32 (j 5))), (6, .int (i32 v6)), (7, .int (i32 v7)), (8, .int (i32 v8))], [.int (i32 u1), .int (i32 u0)], (khp m c, N), 0, 0) (QS Q2 (kfl_tb_match_b103_75 v0 v1 v2 v3 v4 v6 v7 v8 u0 u1 m)) := by
  unfold kfl_tb_match_b103_75
  show PP bb w D pm_196 (75, [(0, .ref (tbr v0)), (1, .ref (obo B v1 + (3 + 1))), (2, .int (i32 v2)), (3, .int (i32 v3)), (4, .int (i32 v4)), (5, .int (i32 (j 5))), (6, .int (i32 v6)), (7, .int (i32 v7)), (8, .int (i32 v8))], [.int (i32 u1), .int (i32 u0)], (khp (mO m [] []) c, N), 0, 0) _
  refine P_op 76 (and32 u0 u1) _ rfl (fun _ => rfl) (i32_of _).symm ?_
  refine P_sto 78 [(5, .int (i32 (and32 u0 u1))), (0, .ref (tbr v0)), (1, .ref (obo B v1 + (3 + 1))), (2, .int (i32 v2)), (3, .int (i32 v3)), (4, .int (i32 v4)), (6, .int (i32 v6)), (7, .int (i32 v7)), (8, .int (i32 v8))] rfl (fun _ => rfl) ?_
  refine P_ld 80 (.int (i32 v6)) rfl (fun _ => rfl) ?_
  refine P_ld 81 (.ref (tbr v0)) rfl (fun _ => rfl) ?_
  refine PK_gfr 84 rfl rfl q0.1 q0.2 rfl ?_
  refine P_ld 86 (.int (i32 v7)) rfl (fun _ => rfl) ?_
  refine PK_ialt2 87 2 (m.2 81) rfl rfl rfl q0 q7 rfl ?_
  refine P_ld 90 (.int (i32 313)) rfl (fun _ => rfl) ?_
  refine P_icE 106 93 rfl rfl rfl (kE_i (KCn_a hm.1 81) rfl _) (l32 313 rfl) rfl (fun h11 => ?_) (fun h11 => ?_)
  · skip
    refine P_ld 94 (.ref (tbr v0)) rfl (fun _ => rfl) ?_
    refine PK_gfr 97 rfl rfl q0.1 q0.2 rfl ?_
    refine P_ld 99 (.int (i32 v8)) rfl (fun _ => rfl) ?_
    refine PK_lalt2 100 7 (m.2 86) rfl rfl rfl q0 q8 rfl ?_
    refine P_cp1 103 197 [.long (i64 ((m.2 86) (65536 * v0 + v8)))] [.int (i32 v6)] rfl (fun _ => rfl) rfl (D_Long_bitCount B w m c N D hm ((m.2 86) (65536 * v0 + v8)) (kE_l (KCn_a hm.1 86) rfl _)) (fun y12 h13 => ?_)
    refine P_goto 107 rfl (fun _ => rfl) ?_
    refine P_lv (b := [(0, .ref (tbr v0)), (1, .ref (obo B v1 + (3 + 1))), (2, .int (i32 v2)), (3, .int (i32 v3)), (4, .int (i32 v4)), (5, .int (i32 (and32 u0 u1))), (6, .int (i32 v6)), (7, .int (i32 v7)), (8, .int (i32 v8))]) rfl rfl ⟨rfl, rfl, rfl, rfl, rfl, rfl, rfl, rfl, rfl, trivial⟩ ?_
    exact dg_tb_match_b103_107 B w c N D bb v0 v1 v2 v3 v4 (and32 u0 u1) v7 v6 y12 q0 q1 q2 q3 q4 t32_r q7 q6 h13 m hm (jk [(6, v6), (8, v8)]) Q2 H1 H2
  · skip
    refine P_ld 107 (.int (i32 0)) rfl (fun _ => rfl) ?_
    refine P_lv (b := [(0, .ref (tbr v0)), (1, .ref (obo B v1 + (3 + 1))), (2, .int (i32 v2)), (3, .int (i32 v3)), (4, .int (i32 v4)), (5, .int (i32 (and32 u0 u1))), (6, .int (i32 v6)), (7, .int (i32 v7)), (8, .int (i32 v8))]) rfl rfl ⟨rfl, rfl, rfl, rfl, rfl, rfl, rfl, rfl, rfl, trivial⟩ ?_
    exact dg_tb_match_b103_107 B w c N D bb v0 v1 v2 v3 v4 (and32 u0 u1) v7 v6 0 q0 q1 q2 q3 q4 t32_r q7 q6 (l32 0 rfl) m hm (jk [(6, v6), (8, v8)]) Q2 H1 H2
def kfb_tb_match_b103_25 (v0 : Int) (v1 : Int) (v2 : Int) (v3 : Int) (v4 : Int) (m : mR) (s : Int × Int × Int) : Option (Sum (Int × Int × Int) (Int × Int)) :=
  if (m.2 72) v0 ≤ s.2.2 then
    some (.inr (s.1, s.2.1))
  else
    if cmp64 (and64 (xor64 ((m.2 103) (65536 * v1 + s.2.2)) ((m.2 85) (65536 * v0 + (cut ((cut (v4 * 4)) + s.2.2))))) ((m.2 86) (65536 * v0 + (cut ((cut (v4 * 4)) + s.2.2))))) 0 = 0 then
      kfl_tb_match_b103_75 v0 v1 v2 v3 v4 s.2.1 s.2.2 (cut ((cut (v4 * 4)) + s.2.2)) s.1 1 m
    else
      kfl_tb_match_b103_75 v0 v1 v2 v3 v4 s.2.1 s.2.2 (cut ((cut (v4 * 4)) + s.2.2)) s.1 0 m
theorem dh_tb_match_b103_25 (B : oB) (w : wX) (c : Nat → Option am_C) (N D : Nat) (v0 : Int) (v1 : Int) (v2 : Int) (v3 : Int) (v4 : Int) (q0 : Rt v0) (q1 : OKo B v1) (q2 : R32 v2) (q3 : R32 v3) (q4 : R32 v4) (m : mR) (hm : KCo B m) (bb : Nat) (Q2 : Sum (Int × Int × Int) (Int × Int) → ag_Re af_T → Prop) (H1 : ∀ s j, cs_tb_match_b103_25 B s → PP bb w D pm_196 (hd_tb_match_b103_25 B c N v0 v1 v2 v3 v4 m s j) (Q2 (.inl s))) (H2 : ∀ x j, cx_tb_match_b103_25 B x → PP bb w D pm_196 (ex_tb_match_b103_25 B c N v0 v1 v2 v3 v4 m x j) (Q2 (.inr x))) (s : Int × Int × Int) (j : Nat → Int) (hs : cs_tb_match_b103_25 B s) : PP (bb + 1) w D pm_196 (hd_tb_match_b103_25 B c N v0 v1 v2 v3 v4 m s j) (QS Q2 (kfb_tb_match_b103_25 v0 v1 v2 v3 v4 m s)) := by
  obtain ⟨g5, g6, g7⟩ := hs
  unfold kfb_tb_match_b103_25
  show PP (bb + 1) w D pm_196 (25, [(0, .ref (tbr v0)), (1, .ref (obo B v1 + (3 + 1))), (2, .int (i32 v2)), (3, .int (i32 v3)), (4, .int (i32 v4)), (5, .int (i32 s.1)), (6, .int (i32 s.2.1)), (7, .int (i32 s.2.2)), (8, .int (i32 (j 8)))], [], (khp (mO m [] []) c, N), 0, 0) _
  refine P1_ld 27 (.int (i32 s.2.2)) rfl (fun _ => rfl) ?_
  refine P_ld 28 (.ref (tbr v0)) rfl (fun _ => rfl) ?_
  refine PK_gfi 31 72 (m.2 72) rfl rfl q0.1 q0.2 rfl rfl ?_
  refine P_icF 116 34 rfl rfl rfl g7 (kE_i (KCn_a hm.1 72) rfl _) rfl (fun h17 => ?_) (fun h17 => ?_)
  · skip
    refine P_some ?_
    exact H2 (s.1, s.2.1) (jk [(7, s.2.2), (8, j 8)]) ⟨g5, g6⟩
  · skip
    refine P_ld 36 (.int (i32 v4)) rfl (fun _ => rfl) ?_
    refine P_ld 37 (.int (i32 4)) rfl (fun _ => rfl) ?_
    refine P_op 38 (cut (v4 * 4)) _ rfl (fun _ => rfl) o_mul ?_
    refine P_ld 40 (.int (i32 s.2.2)) rfl (fun _ => rfl) ?_
    refine P_op 41 (cut ((cut (v4 * 4)) + s.2.2)) _ rfl (fun _ => rfl) o_add ?_
    refine P_sto 43 [(8, .int (i32 (cut ((cut (v4 * 4)) + s.2.2)))), (0, .ref (tbr v0)), (1, .ref (obo B v1 + (3 + 1))), (2, .int (i32 v2)), (3, .int (i32 v3)), (4, .int (i32 v4)), (5, .int (i32 s.1)), (6, .int (i32 s.2.1)), (7, .int (i32 s.2.2))] rfl (fun _ => rfl) ?_
    refine P_ld 45 (.int (i32 s.1)) rfl (fun _ => rfl) ?_
    refine P_ld 46 (.ref (obo B v1 + (3 + 1))) rfl (fun _ => rfl) ?_
    refine P_ld 48 (.int (i32 s.2.2)) rfl (fun _ => rfl) ?_
    refine PK_lalo2 49 3 (m.2 103) rfl rfl rfl hm rfl rfl q1 g7 rfl ?_
    refine P_ld 50 (.ref (tbr v0)) rfl (fun _ => rfl) ?_
    refine PK_gfr 53 rfl rfl q0.1 q0.2 rfl ?_
    refine P_ld 55 (.int (i32 (cut ((cut (v4 * 4)) + s.2.2)))) rfl (fun _ => rfl) ?_
    refine PK_lalt2 56 6 (m.2 85) rfl rfl rfl q0 cut_r rfl ?_
    refine P_opl 57 (xor64 ((m.2 103) (65536 * v1 + s.2.2)) ((m.2 85) (65536 * v0 + (cut ((cut (v4 * 4)) + s.2.2))))) _ rfl (fun _ => rfl) (Int64.ofInt_toInt _).symm ?_
    refine P_ld 58 (.ref (tbr v0)) rfl (fun _ => rfl) ?_
    refine PK_gfr 61 rfl rfl q0.1 q0.2 rfl ?_
    refine P_ld 63 (.int (i32 (cut ((cut (v4 * 4)) + s.2.2)))) rfl (fun _ => rfl) ?_
    refine PK_lalt2 64 7 (m.2 86) rfl rfl rfl q0 cut_r rfl ?_
    refine P_opl 65 (and64 (xor64 ((m.2 103) (65536 * v1 + s.2.2)) ((m.2 85) (65536 * v0 + (cut ((cut (v4 * 4)) + s.2.2))))) ((m.2 86) (65536 * v0 + (cut ((cut (v4 * 4)) + s.2.2))))) _ rfl (fun _ => rfl) (Int64.ofInt_toInt _).symm ?_
    refine P_ld 66 (.long (i64 0)) rfl (fun _ => rfl) ?_
    refine P_op 67 (cmp64 (and64 (xor64 ((m.2 103) (65536 * v1 + s.2.2)) ((m.2 85) (65536 * v0 + (cut ((cut (v4 * 4)) + s.2.2))))) ((m.2 86) (65536 * v0 + (cut ((cut (v4 * 4)) + s.2.2))))) 0) _ rfl (fun _ => rfl) (o_cmp t64_r (l64 0 rfl)) ?_
    refine P_ifE 74 70 rfl rfl rfl cmp64_r rfl (fun h18 => ?_) (fun h18 => ?_)
    · skip
      refine P_ld 71 (.int (i32 1)) rfl (fun _ => rfl) ?_
      refine P_goto 75 rfl (fun _ => rfl) ?_
      refine P_lv (b := [(0, .ref (tbr v0)), (1, .ref (obo B v1 + (3 + 1))), (2, .int (i32 v2)), (3, .int (i32 v3)), (4, .int (i32 v4)), (5, .int (i32 s.1)), (6, .int (i32 s.2.1)), (7, .int (i32 s.2.2)), (8, .int (i32 (cut ((cut (v4 * 4)) + s.2.2))))]) rfl rfl ⟨rfl, rfl, rfl, rfl, rfl, rfl, rfl, rfl, rfl, trivial⟩ ?_
      exact dg_tb_match_b103_75 B w c N D bb v0 v1 v2 v3 v4 s.2.1 s.2.2 (cut ((cut (v4 * 4)) + s.2.2)) s.1 1 q0 q1 q2 q3 q4 g6 g7 cut_r g5 (l32 1 rfl) m hm (jk [(5, s.1)]) Q2 H1 H2
    · skip
      refine P_ld 75 (.int (i32 0)) rfl (fun _ => rfl) ?_
      refine P_lv (b := [(0, .ref (tbr v0)), (1, .ref (obo B v1 + (3 + 1))), (2, .int (i32 v2)), (3, .int (i32 v3)), (4, .int (i32 v4)), (5, .int (i32 s.1)), (6, .int (i32 s.2.1)), (7, .int (i32 s.2.2)), (8, .int (i32 (cut ((cut (v4 * 4)) + s.2.2))))]) rfl rfl ⟨rfl, rfl, rfl, rfl, rfl, rfl, rfl, rfl, rfl, trivial⟩ ?_
      exact dg_tb_match_b103_75 B w c N D bb v0 v1 v2 v3 v4 s.2.1 s.2.2 (cut ((cut (v4 * 4)) + s.2.2)) s.1 0 q0 q1 q2 q3 q4 g6 g7 cut_r g5 (l32 0 rfl) m hm (jk [(5, s.1)]) Q2 H1 H2
def kfb_tb_match_b103_7 (v0 : Int) (v1 : Int) (m : mR) (s : Int × Int × Int) : Option (Sum (Int × Int × Int) (Int)) :=
  if (m.2 78) v0 ≤ s.2.2 then
    some (.inr s.1)
  else
    bnd (whl (kfb_tb_match_b103_25 v0 v1 s.1 s.2.1 s.2.2 m) (1, 0, 0)) (fun e21 : Int × Int =>
      kfl_tb_match_b103_116 v0 v1 s.1 s.2.1 s.2.2 e21.1 e21.2 m)
theorem dh_tb_match_b103_7 (B : oB) (w : wX) (c : Nat → Option am_C) (N D : Nat) (v0 : Int) (v1 : Int) (q0 : Rt v0) (q1 : OKo B v1) (m : mR) (hm : KCo B m) (bb : Nat) (Q2 : Sum (Int × Int × Int) (Int) → ag_Re af_T → Prop) (H1 : ∀ s j, cs_tb_match_b103_7 B s → PP bb w D pm_196 (hd_tb_match_b103_7 B c N v0 v1 m s j) (Q2 (.inl s))) (H2 : ∀ x j, cx_tb_match_b103_7 B x → PP bb w D pm_196 (ex_tb_match_b103_7 B c N v0 v1 m x j) (Q2 (.inr x))) (s : Int × Int × Int) (j : Nat → Int) (hs : cs_tb_match_b103_7 B s) : PP (bb + 1) w D pm_196 (hd_tb_match_b103_7 B c N v0 v1 m s j) (QS Q2 (kfb_tb_match_b103_7 v0 v1 m s)) := by
  obtain ⟨g2, g3, g4⟩ := hs
  unfold kfb_tb_match_b103_7
  show PP (bb + 1) w D pm_196 (7, [(0, .ref (tbr v0)), (1, .ref (obo B v1 + (3 + 1))), (2, .int (i32 s.1)), (3, .int (i32 s.2.1)), (4, .int (i32 s.2.2)), (5, .int (i32 (j 5))), (6, .int (i32 (j 6))), (7, .int (i32 (j 7))), (8, .int (i32 (j 8)))], [], (khp (mO m [] []) c, N), 0, 0) _
  refine P1_ld 9 (.int (i32 s.2.2)) rfl (fun _ => rfl) ?_
  refine P_ld 10 (.ref (tbr v0)) rfl (fun _ => rfl) ?_
  refine PK_gfi 13 78 (m.2 78) rfl rfl q0.1 q0.2 rfl rfl ?_
  refine P_icF 190 16 rfl rfl rfl g4 (kE_i (KCn_a hm.1 78) rfl _) rfl (fun h20 => ?_) (fun h20 => ?_)
  · skip
    refine P_some ?_
    exact H2 s.1 (jk [(0, v0), (1, v1), (3, s.2.1), (4, s.2.2), (5, j 5), (6, j 6), (7, j 7), (8, j 8)]) g2
  · skip
    refine P_ld 17 (.int (i32 1)) rfl (fun _ => rfl) ?_
    refine P_sto 19 [(5, .int (i32 1)), (0, .ref (tbr v0)), (1, .ref (obo B v1 + (3 + 1))), (2, .int (i32 s.1)), (3, .int (i32 s.2.1)), (4, .int (i32 s.2.2)), (6, .int (i32 (j 6))), (7, .int (i32 (j 7))), (8, .int (i32 (j 8)))] rfl (fun _ => rfl) ?_
    refine P_ld 20 (.int (i32 0)) rfl (fun _ => rfl) ?_
    refine P_sto 22 [(6, .int (i32 0)), (5, .int (i32 1)), (0, .ref (tbr v0)), (1, .ref (obo B v1 + (3 + 1))), (2, .int (i32 s.1)), (3, .int (i32 s.2.1)), (4, .int (i32 s.2.2)), (7, .int (i32 (j 7))), (8, .int (i32 (j 8)))] rfl (fun _ => rfl) ?_
    refine P_ld 23 (.int (i32 0)) rfl (fun _ => rfl) ?_
    refine P_sto 25 [(7, .int (i32 0)), (6, .int (i32 0)), (5, .int (i32 1)), (0, .ref (tbr v0)), (1, .ref (obo B v1 + (3 + 1))), (2, .int (i32 s.1)), (3, .int (i32 s.2.1)), (4, .int (i32 s.2.2)), (8, .int (i32 (j 8)))] rfl (fun _ => rfl) ?_
    refine P_lv (b := [(0, .ref (tbr v0)), (1, .ref (obo B v1 + (3 + 1))), (2, .int (i32 s.1)), (3, .int (i32 s.2.1)), (4, .int (i32 s.2.2)), (5, .int (i32 1)), (6, .int (i32 0)), (7, .int (i32 0)), (8, .int (i32 (j 8)))]) rfl rfl ⟨rfl, rfl, rfl, rfl, rfl, rfl, rfl, rfl, rfl, trivial⟩ ?_
    refine P_bnd ?_
    refine P_whl (fun bb Q2 H1 H2 s9 j9 hs9 => dh_tb_match_b103_25 B w c N D v0 v1 s.1 s.2.1 s.2.2 q0 q1 g2 g3 g4 m hm bb Q2 H1 H2 s9 j9 hs9) bb (fun e21 j q22 => ?_) (1, 0, 0) (jk [(8, j 8)]) ⟨(l32 1 rfl), (l32 0 rfl), (l32 0 rfl)⟩
    obtain ⟨q23, q24⟩ := q22
    show PP bb w D pm_196 (116, [(0, .ref (tbr v0)), (1, .ref (obo B v1 + (3 + 1))), (2, .int (i32 s.1)), (3, .int (i32 s.2.1)), (4, .int (i32 s.2.2)), (5, .int (i32 e21.1)), (6, .int (i32 e21.2)), (7, .int (i32 (j 7))), (8, .int (i32 (j 8)))], [], (khp (mO m [] []) c, N), 0, 0) (QS _ (kfl_tb_match_b103_116 v0 v1 s.1 s.2.1 s.2.2 e21.1 e21.2 m))
    exact dg_tb_match_b103_116 B w c N D bb v0 v1 s.1 s.2.1 s.2.2 e21.1 e21.2 q0 q1 g2 g3 g4 q23 q24 m hm (jk [(7, j 7), (8, j 8)]) Q2 H1 H2
def kf_tb_match_b103 (v0 : Int) (v1 : Int) (m : mR) : Option Int :=
  bnd (whl (kfb_tb_match_b103_7 v0 v1 m) ((-1), 0, 0)) (fun e25 : Int =>
    some e25)
theorem D_tb_match_b103 (B : oB) (w : wX) (m : mR) (c : Nat → Option am_C) (N D : Nat) (hm : KCo B m) (v0 : Int) (v1 : Int) (q0 : Rt v0) (q1 : OKo B v1) : PC w D 196 [.ref (tbr v0), .ref (obo B v1 + (3 + 1))] (khp m c, N) (QS (FP1 (khp m c, N)) (kf_tb_match_b103 v0 v1 m)) := by
  refine Pc_of (fun D bb => ?_) D
  unfold kf_tb_match_b103
  show PP bb w D pm_196 (0, [(0, .ref (tbr v0)), (1, .ref (obo B v1 + (3 + 1)))], [], (khp (mO m [] []) c, N), 0, 0) _
  refine P_ld 1 (.int (i32 (-1))) rfl (fun _ => rfl) ?_
  refine P_sto 2 [(2, .int (i32 (-1))), (0, .ref (tbr v0)), (1, .ref (obo B v1 + (3 + 1)))] rfl (fun _ => rfl) ?_
  refine P_ld 3 (.int (i32 0)) rfl (fun _ => rfl) ?_
  refine P_sto 4 [(3, .int (i32 0)), (2, .int (i32 (-1))), (0, .ref (tbr v0)), (1, .ref (obo B v1 + (3 + 1)))] rfl (fun _ => rfl) ?_
  refine P_ld 5 (.int (i32 0)) rfl (fun _ => rfl) ?_
  refine P_sto 7 [(4, .int (i32 0)), (3, .int (i32 0)), (2, .int (i32 (-1))), (0, .ref (tbr v0)), (1, .ref (obo B v1 + (3 + 1)))] rfl (fun _ => rfl) ?_
  refine P_lv (b := [(0, .ref (tbr v0)), (1, .ref (obo B v1 + (3 + 1))), (2, .int (i32 (-1))), (3, .int (i32 0)), (4, .int (i32 0)), (5, .int (i32 0)), (6, .int (i32 0)), (7, .int (i32 0)), (8, .int (i32 0))]) rfl rfl ⟨rfl, rfl, rfl, rfl, rfl, trivial⟩ ?_
  refine P_bnd ?_
  refine P_whl (fun bb Q2 H1 H2 s9 j9 hs9 => dh_tb_match_b103_7 B w c N D v0 v1 q0 q1 m hm bb Q2 H1 H2 s9 j9 hs9) bb (fun e25 j q26 => ?_) ((-1), 0, 0) (jk []) ⟨(l32 (-1) rfl), (l32 0 rfl), (l32 0 rfl)⟩
  have q27 := q26
  show PP bb w D pm_196 (190, [(0, .ref (tbr (j 0))), (1, .ref (obo B (j 1) + (3 + 1))), (2, .int (i32 e25)), (3, .int (i32 (j 3))), (4, .int (i32 (j 4))), (5, .int (i32 (j 5))), (6, .int (i32 (j 6))), (7, .int (i32 (j 7))), (8, .int (i32 (j 8)))], [], (khp (mO m [] []) c, N), 0, 0) (QS _ (some e25))
  refine P_ld 191 (.int (i32 e25)) rfl (fun _ => rfl) ?_
  exact P_rp1 rfl q27
def cs_op_apply_b71_3 (B : oB) (s : Int × mR) : Prop := R32 s.1 ∧ KCo B s.2
def cx_op_apply_b71_3 (B : oB) : (mR) → Prop := (fun (e : mR) => KCo B e)
def hd_op_apply_b71_3 (B : oB) (c : Nat → Option am_C) (N : Nat) (v0 : Int) (v2 : Int) (s : Int × mR) (j : Nat → Int) : ag_St af_T := (3, [(0, .ref (obo B v0)), (1, .ref 12), (2, .ref (tbr v2)), (3, .ref 188), (4, .int (i32 s.1))], [], (khp s.2 c, N), 0, 0)
def ex_op_apply_b71_3 (B : oB) (c : Nat → Option am_C) (N : Nat) (v0 : Int) (v2 : Int) : (mR) → (Nat → Int) → ag_St af_T := (fun (e : mR) (j : Nat → Int) => ((54, [(0, .ref (obo B v0)), (1, .ref 12), (2, .ref (tbr v2)), (3, .ref 188), (4, .int (i32 (j 4)))], [], (khp e c, N), 0, 0) : ag_St af_T))
def cs_op_apply_b71_149 (B : oB) (s : Int × mR) : Prop := R32 s.1 ∧ KCo B s.2
def cx_op_apply_b71_149 (B : oB) : (mR) → Prop := (fun (e : mR) => KCo B e)
def hd_op_apply_b71_149 (B : oB) (c : Nat → Option am_C) (N : Nat) (v0 : Int) (v6 : Int) (s : Int × mR) (j : Nat → Int) : ag_St af_T := (149, [(0, .ref (obo B v0)), (1, .ref 12), (2, .ref (tbr (j 2))), (3, .ref 188), (4, .int (i32 (j 4))), (5, .int (i32 (j 5))), (6, .int (i32 v6)), (7, .int (i32 (j 7))), (8, .ref 45), (9, .int (i32 s.1))], [], (khp s.2 c, N), 0, 0)
def ex_op_apply_b71_149 (B : oB) (c : Nat → Option am_C) (N : Nat) (v0 : Int) (v6 : Int) : (mR) → (Nat → Int) → ag_St af_T := (fun (e : mR) (j : Nat → Int) => ((185, [(0, .ref (obo B (j 0))), (1, .ref 12), (2, .ref (tbr (j 2))), (3, .ref 188), (4, .int (i32 (j 4))), (5, .int (i32 (j 5))), (6, .int (i32 v6)), (7, .int (i32 (j 7))), (8, .ref 45), (9, .int (i32 (j 9)))], [], (khp e c, N), 0, 0) : ag_St af_T))
def kfb_op_apply_b71_149 (v0 : Int) (v6 : Int) (s : Int × mR) : Option (Sum (Int × mR) (mR)) :=
  if (s.2.2 44) v6 ≤ s.1 then
    some (.inr s.2)
  else
    bnd (kf_op_doDeed_b71 v0 (cut (((s.2.2 43) v6) + s.1)) s.2) fun y5 =>
    some (.inl (cut (s.1 + 1), y5.2))
theorem dh_op_apply_b71_149 (B : oB) (w : wX) (c : Nat → Option am_C) (N D : Nat) (v0 : Int) (v6 : Int) (q0 : OKo B v0) (q6 : R32 v6) (bb : Nat) (Q2 : Sum (Int × mR) (mR) → ag_Re af_T → Prop) (H1 : ∀ s j, cs_op_apply_b71_149 B s → PP bb w D pm_195 (hd_op_apply_b71_149 B c N v0 v6 s j) (Q2 (.inl s))) (H2 : ∀ x j, cx_op_apply_b71_149 B x → PP bb w D pm_195 (ex_op_apply_b71_149 B c N v0 v6 x j) (Q2 (.inr x))) (s : Int × mR) (j : Nat → Int) (hs : cs_op_apply_b71_149 B s) : PP (bb + 1) w D pm_195 (hd_op_apply_b71_149 B c N v0 v6 s j) (QS Q2 (kfb_op_apply_b71_149 v0 v6 s)) := by
  obtain ⟨g9, gm⟩ := hs
  unfold kfb_op_apply_b71_149
  show PP (bb + 1) w D pm_195 (149, [(0, .ref (obo B v0)), (1, .ref 12), (2, .ref (tbr (j 2))), (3, .ref 188), (4, .int (i32 (j 4))), (5, .int (i32 (j 5))), (6, .int (i32 v6)), (7, .int (i32 (j 7))), (8, .ref 45), (9, .int (i32 s.1))], [], (khp (mO s.2 [] []) c, N), 0, 0) _
  refine P1_ld 151 (.int (i32 s.1)) rfl (fun _ => rfl) ?_
  refine P_ld 153 (.ref 45) rfl (fun _ => rfl) ?_
  refine PK_gf 156 (.ref 51) rfl rfl kd_45 rfl rfl rfl ?_
  refine P_ld 158 (.int (i32 v6)) rfl (fun _ => rfl) ?_
  refine PK_iald2 159 44 (s.2.2 44) rfl rfl rfl q6 rfl ?_
  refine P_icF 185 162 rfl rfl rfl g9 (kE_i (KCn_a gm.1 44) rfl _) rfl (fun h4 => ?_) (fun h4 => ?_)
  · skip
    refine P_some ?_
    exact H2 s.2 (jk [(0, v0), (2, j 2), (4, j 4), (5, j 5), (7, j 7), (9, s.1)]) gm
  · skip
    refine P_ld 163 (.ref (obo B v0)) rfl (fun _ => rfl) ?_
    refine P_ld 164 (.ref 12) rfl (fun _ => rfl) ?_
    refine P_ld 166 (.ref 45) rfl (fun _ => rfl) ?_
    refine PK_gf 169 (.ref 50) rfl rfl kd_45 rfl rfl rfl ?_
    refine P_ld 171 (.int (i32 v6)) rfl (fun _ => rfl) ?_
    refine PK_iald2 172 43 (s.2.2 43) rfl rfl rfl q6 rfl ?_
    refine P_ld 174 (.int (i32 s.1)) rfl (fun _ => rfl) ?_
    refine P_op 175 (cut (((s.2.2 43) v6) + s.1)) _ rfl (fun _ => rfl) o_add ?_
    refine P_ld 176 (.ref 188) rfl (fun _ => rfl) ?_
    refine P_co0 179 198 [.ref (obo B v0), .ref 12, .int (i32 (cut (((s.2.2 43) v6) + s.1))), .ref 188] [] rfl (inv_vt (args := [.ref 188, .int (i32 (cut (((s.2.2 43) v6) + s.1))), .ref 12]) (khp_oo gm rfl rfl q0) rfl rfl rfl) rfl (D_op_doDeed_b71 B w s.2 c N D gm v0 (cut (((s.2.2 43) v6) + s.1)) q0 cut_r) (fun y5 n7 => ?_)
    refine P_inc 182 [(9, .int (i32 (cut (s.1 + 1)))), (0, .ref (obo B v0)), (1, .ref 12), (2, .ref (tbr (j 2))), (3, .ref 188), (4, .int (i32 (j 4))), (5, .int (i32 (j 5))), (6, .int (i32 v6)), (7, .int (i32 (j 7))), (8, .ref 45)] rfl rfl (by decide) rfl rfl ?_
    refine P_goto 149 rfl (fun _ => rfl) ?_
    refine P_some ?_
    refine P_lv (b := [(0, .ref (obo B v0)), (1, .ref 12), (2, .ref (tbr (j 2))), (3, .ref 188), (4, .int (i32 (j 4))), (5, .int (i32 (j 5))), (6, .int (i32 v6)), (7, .int (i32 (j 7))), (8, .ref 45), (9, .int (i32 (cut (s.1 + 1))))]) rfl rfl ⟨rfl, rfl, rfl, rfl, rfl, rfl, rfl, rfl, rfl, rfl, trivial⟩ ?_
    exact H1 (cut (s.1 + 1), y5.2) (jk [(2, j 2), (4, j 4), (5, j 5), (7, j 7)]) ⟨cut_r, n7⟩
def kfl_op_apply_b71_140 (v0 : Int) (v6 : Int) (m : mR) : Option (Int × mR) :=
  bnd (whl (kfb_op_apply_b71_149 v0 v6) (0, m)) (fun e8 : mR =>
    some (v6, e8))
theorem dg_op_apply_b71_140 (B : oB) (w : wX) (c : Nat → Option am_C) (N D : Nat) (bb : Nat) (v0 : Int) (v6 : Int) (q0 : OKo B v0) (q6 : R32 v6) (m : mR) (hm : KCo B m) (j : Nat → Int) : PP bb w D pm_195 (140, [(0, .ref (obo B v0)), (1, .ref 12), (2, .ref (tbr (j 2))), (3, .ref 188), (4, .int (i32 (j 4))), (5, .int (i32 (j 5))), (6, .int (i32 v6)), (7, .int (i32 (j 7)))], [], (khp m c, N), 0, 0) (QS (FO1 B c N) (kfl_op_apply_b71_140 v0 v6 m)) := by
  unfold kfl_op_apply_b71_140
  show PP bb w D pm_195 (140, [(0, .ref (obo B v0)), (1, .ref 12), (2, .ref (tbr (j 2))), (3, .ref 188), (4, .int (i32 (j 4))), (5, .int (i32 (j 5))), (6, .int (i32 v6)), (7, .int (i32 (j 7)))], [], (khp (mO m [] []) c, N), 0, 0) _
  refine P_ld 141 (.ref 12) rfl (fun _ => rfl) ?_
  refine PK_gf 144 (.ref 45) rfl rfl kd_12 rfl rfl rfl ?_
  refine P_sto 146 [(8, .ref 45), (0, .ref (obo B v0)), (1, .ref 12), (2, .ref (tbr (j 2))), (3, .ref 188), (4, .int (i32 (j 4))), (5, .int (i32 (j 5))), (6, .int (i32 v6)), (7, .int (i32 (j 7)))] rfl (fun _ => rfl) ?_
  refine P_ld 147 (.int (i32 0)) rfl (fun _ => rfl) ?_
  refine P_sto 149 [(9, .int (i32 0)), (8, .ref 45), (0, .ref (obo B v0)), (1, .ref 12), (2, .ref (tbr (j 2))), (3, .ref 188), (4, .int (i32 (j 4))), (5, .int (i32 (j 5))), (6, .int (i32 v6)), (7, .int (i32 (j 7)))] rfl (fun _ => rfl) ?_
  refine P_lv (b := [(0, .ref (obo B v0)), (1, .ref 12), (2, .ref (tbr (j 2))), (3, .ref 188), (4, .int (i32 (j 4))), (5, .int (i32 (j 5))), (6, .int (i32 v6)), (7, .int (i32 (j 7))), (8, .ref 45), (9, .int (i32 0))]) rfl rfl ⟨rfl, rfl, rfl, rfl, rfl, rfl, rfl, rfl, rfl, rfl, trivial⟩ ?_
  refine P_bnd ?_
  refine P_whl (fun bb Q2 H1 H2 s9 j9 hs9 => dh_op_apply_b71_149 B w c N D v0 v6 q0 q6 bb Q2 H1 H2 s9 j9 hs9) bb (fun e8 j q9 => ?_) (0, m) (jk [(2, j 2), (4, j 4), (5, j 5), (7, j 7)]) ⟨(l32 0 rfl), hm⟩
  have q10 := q9
  show PP bb w D pm_195 (185, [(0, .ref (obo B (j 0))), (1, .ref 12), (2, .ref (tbr (j 2))), (3, .ref 188), (4, .int (i32 (j 4))), (5, .int (i32 (j 5))), (6, .int (i32 v6)), (7, .int (i32 (j 7))), (8, .ref 45), (9, .int (i32 (j 9)))], [], (khp (mO e8 [] []) c, N), 0, 0) (QS _ (some (v6, e8)))
  refine P_ld 187 (.int (i32 v6)) rfl (fun _ => rfl) ?_
  exact P_ro1 rfl q6 q10
def kfl_op_apply_b71_111 (v0 : Int) (v2 : Int) (v5 : Int) (v6 : Int) (u0 : Int) (m : mR) : Option (Int × mR) :=
  if v5 = 0 then
    kfl_op_apply_b71_140 v0 v6 (mO m [] [(105, cpI (m.2 84) (m.2 105) (65536 * v2 + u0) (65536 * v0 + 0) 4)])
  else
    kfl_op_apply_b71_140 v0 v6 (mO m [] [(105, cpI (m.2 87) (m.2 105) (65536 * v2 + u0) (65536 * v0 + 0) 4)])
theorem dg_op_apply_b71_111 (B : oB) (w : wX) (c : Nat → Option am_C) (N D : Nat) (bb : Nat) (v0 : Int) (v2 : Int) (v5 : Int) (v6 : Int) (u0 : Int) (q0 : OKo B v0) (q2 : Rt v2) (q5 : R32 v5) (q6 : R32 v6) (r0 : R32 u0) (m : mR) (hm : KCo B m) (j : Nat → Int) : PP bb w D pm_195 (111, [(0, .ref (obo B v0)), (1, .ref 12), (2, .ref (tbr v2)), (3, .ref 188), (4, .int (i32 (j 4))), (5, .int (i32 v5)), (6, .int (i32 v6))], [.int (i32 u0)], (khp m c, N), 0, 0) (QS (FO1 B c N) (kfl_op_apply_b71_111 v0 v2 v5 v6 u0 m)) := by
  unfold kfl_op_apply_b71_111
  show PP bb w D pm_195 (111, [(0, .ref (obo B v0)), (1, .ref 12), (2, .ref (tbr v2)), (3, .ref 188), (4, .int (i32 (j 4))), (5, .int (i32 v5)), (6, .int (i32 v6))], [.int (i32 u0)], (khp (mO m [] []) c, N), 0, 0) _
  refine P_sto 113 [(7, .int (i32 u0)), (0, .ref (obo B v0)), (1, .ref 12), (2, .ref (tbr v2)), (3, .ref 188), (4, .int (i32 (j 4))), (5, .int (i32 v5)), (6, .int (i32 v6))] rfl (fun _ => rfl) ?_
  refine P_ld 115 (.int (i32 v5)) rfl (fun _ => rfl) ?_
  refine P_ifF 125 118 rfl rfl rfl q5 rfl (fun h11 => ?_) (fun h11 => ?_)
  · skip
    refine P_ld 126 (.ref (tbr v2)) rfl (fun _ => rfl) ?_
    refine PK_gfr 129 rfl rfl q2.1 q2.2 rfl ?_
    refine P_ld 131 (.int (i32 u0)) rfl (fun _ => rfl) ?_
    refine P_ld 132 (.ref (obo B v0)) rfl (fun _ => rfl) ?_
    refine PK_gor 135 rfl rfl (OKr_o hm rfl rfl q0) (obr_o hm rfl) rfl ?_
    refine P_ld 136 (.int (i32 0)) rfl (fun _ => rfl) ?_
    refine P_ld 137 (.int (i32 4)) rfl (fun _ => rfl) ?_
    refine PK_cpl2 (a' := [(105, cpI (m.2 84) (m.2 105) (65536 * v2 + u0) (65536 * v0 + 0) 4)]) 140 5 (m.2 84) (m.2 105) (65536 * v2) rfl rfl rfl rfl (kar_tt 5 rfl q2) (ka1_p (by decide) rfl) hm rfl rfl q0 r0 (l32 0 rfl) (l32 4 rfl) (by decide) rfl rfl ?_
    refine P_lv (b := [(0, .ref (obo B v0)), (1, .ref 12), (2, .ref (tbr v2)), (3, .ref 188), (4, .int (i32 (j 4))), (5, .int (i32 v5)), (6, .int (i32 v6)), (7, .int (i32 u0))]) rfl rfl ⟨rfl, rfl, rfl, rfl, rfl, rfl, rfl, rfl, trivial⟩ ?_
    exact dg_op_apply_b71_140 B w c N D bb v0 v6 q0 q6 (mO m [] [(105, cpI (m.2 84) (m.2 105) (65536 * v2 + u0) (65536 * v0 + 0) 4)]) (KCo_mO hm rfl rfl (KC6 hm rfl) trivial ⟨(kE_cp (KCn_a hm.1 84) (KCn_a hm.1 105) rfl), trivial⟩) (jk [(2, v2), (4, j 4), (5, v5), (7, u0)])
  · skip
    refine P_ld 119 (.ref (tbr v2)) rfl (fun _ => rfl) ?_
    refine PK_gfr 122 rfl rfl q2.1 q2.2 rfl ?_
    refine P_goto 129 rfl (fun _ => rfl) ?_
    refine P_ld 131 (.int (i32 u0)) rfl (fun _ => rfl) ?_
    refine P_ld 132 (.ref (obo B v0)) rfl (fun _ => rfl) ?_
    refine PK_gor 135 rfl rfl (OKr_o hm rfl rfl q0) (obr_o hm rfl) rfl ?_
    refine P_ld 136 (.int (i32 0)) rfl (fun _ => rfl) ?_
    refine P_ld 137 (.int (i32 4)) rfl (fun _ => rfl) ?_
    refine PK_cpl2 (a' := [(105, cpI (m.2 87) (m.2 105) (65536 * v2 + u0) (65536 * v0 + 0) 4)]) 140 5 (m.2 87) (m.2 105) (65536 * v2) rfl rfl rfl rfl (kar_tt 8 rfl q2) (ka1_p (by decide) rfl) hm rfl rfl q0 r0 (l32 0 rfl) (l32 4 rfl) (by decide) rfl rfl ?_
    refine P_lv (b := [(0, .ref (obo B v0)), (1, .ref 12), (2, .ref (tbr v2)), (3, .ref 188), (4, .int (i32 (j 4))), (5, .int (i32 v5)), (6, .int (i32 v6)), (7, .int (i32 u0))]) rfl rfl ⟨rfl, rfl, rfl, rfl, rfl, rfl, rfl, rfl, trivial⟩ ?_
    exact dg_op_apply_b71_140 B w c N D bb v0 v6 q0 q6 (mO m [] [(105, cpI (m.2 87) (m.2 105) (65536 * v2 + u0) (65536 * v0 + 0) 4)]) (KCo_mO hm rfl rfl (KC6 hm rfl) trivial ⟨(kE_cp (KCn_a hm.1 87) (KCn_a hm.1 105) rfl), trivial⟩) (jk [(2, v2), (4, j 4), (5, v5), (7, u0)])
def kfl_op_apply_b71_96 (v0 : Int) (v2 : Int) (v4 : Int) (v5 : Int) (u0 : Int) (m : mR) : Option (Int × mR) :=
  if v5 = 0 then
    kfl_op_apply_b71_111 v0 v2 v5 u0 0 m
  else
    kfl_op_apply_b71_111 v0 v2 v5 u0 (cut (v4 * 4)) m
theorem dg_op_apply_b71_96 (B : oB) (w : wX) (c : Nat → Option am_C) (N D : Nat) (bb : Nat) (v0 : Int) (v2 : Int) (v4 : Int) (v5 : Int) (u0 : Int) (q0 : OKo B v0) (q2 : Rt v2) (q4 : R32 v4) (q5 : R32 v5) (r0 : R32 u0) (m : mR) (hm : KCo B m) (j : Nat → Int) : PP bb w D pm_195 (96, [(0, .ref (obo B v0)), (1, .ref 12), (2, .ref (tbr v2)), (3, .ref 188), (4, .int (i32 v4)), (5, .int (i32 v5))], [.int (i32 u0)], (khp m c, N), 0, 0) (QS (FO1 B c N) (kfl_op_apply_b71_96 v0 v2 v4 v5 u0 m)) := by
  unfold kfl_op_apply_b71_96
  show PP bb w D pm_195 (96, [(0, .ref (obo B v0)), (1, .ref 12), (2, .ref (tbr v2)), (3, .ref 188), (4, .int (i32 v4)), (5, .int (i32 v5))], [.int (i32 u0)], (khp (mO m [] []) c, N), 0, 0) _
  refine P_sto 98 [(6, .int (i32 u0)), (0, .ref (obo B v0)), (1, .ref 12), (2, .ref (tbr v2)), (3, .ref 188), (4, .int (i32 v4)), (5, .int (i32 v5))] rfl (fun _ => rfl) ?_
  refine P_ld 100 (.int (i32 v5)) rfl (fun _ => rfl) ?_
  refine P_ifF 110 103 rfl rfl rfl q5 rfl (fun h12 => ?_) (fun h12 => ?_)
  · skip
    refine P_ld 111 (.int (i32 0)) rfl (fun _ => rfl) ?_
    refine P_lv (b := [(0, .ref (obo B v0)), (1, .ref 12), (2, .ref (tbr v2)), (3, .ref 188), (4, .int (i32 v4)), (5, .int (i32 v5)), (6, .int (i32 u0))]) rfl rfl ⟨rfl, rfl, rfl, rfl, rfl, rfl, rfl, trivial⟩ ?_
    exact dg_op_apply_b71_111 B w c N D bb v0 v2 v5 u0 0 q0 q2 q5 r0 (l32 0 rfl) m hm (jk [(4, v4)])
  · skip
    refine P_ld 105 (.int (i32 v4)) rfl (fun _ => rfl) ?_
    refine P_ld 106 (.int (i32 4)) rfl (fun _ => rfl) ?_
    refine P_op 107 (cut (v4 * 4)) _ rfl (fun _ => rfl) o_mul ?_
    refine P_goto 111 rfl (fun _ => rfl) ?_
    refine P_lv (b := [(0, .ref (obo B v0)), (1, .ref 12), (2, .ref (tbr v2)), (3, .ref 188), (4, .int (i32 v4)), (5, .int (i32 v5)), (6, .int (i32 u0))]) rfl rfl ⟨rfl, rfl, rfl, rfl, rfl, rfl, rfl, trivial⟩ ?_
    exact dg_op_apply_b71_111 B w c N D bb v0 v2 v5 u0 (cut (v4 * 4)) q0 q2 q5 r0 cut_r m hm (jk [(4, v4)])
def kfl_op_apply_b71_75 (v0 : Int) (v2 : Int) (v4 : Int) (u0 : Int) (m : mR) : Option (Int × mR) :=
  if u0 = 0 then
    kfl_op_apply_b71_96 v0 v2 v4 u0 ((m.2 74) v2) m
  else
    kfl_op_apply_b71_96 v0 v2 v4 u0 ((m.2 89) (65536 * v2 + v4)) m
theorem dg_op_apply_b71_75 (B : oB) (w : wX) (c : Nat → Option am_C) (N D : Nat) (bb : Nat) (v0 : Int) (v2 : Int) (v4 : Int) (u0 : Int) (q0 : OKo B v0) (q2 : Rt v2) (q4 : R32 v4) (r0 : R32 u0) (m : mR) (hm : KCo B m) (j : Nat → Int) : PP bb w D pm_195 (75, [(0, .ref (obo B v0)), (1, .ref 12), (2, .ref (tbr v2)), (3, .ref 188), (4, .int (i32 v4))], [.int (i32 u0)], (khp m c, N), 0, 0) (QS (FO1 B c N) (kfl_op_apply_b71_75 v0 v2 v4 u0 m)) := by
  unfold kfl_op_apply_b71_75
  show PP bb w D pm_195 (75, [(0, .ref (obo B v0)), (1, .ref 12), (2, .ref (tbr v2)), (3, .ref 188), (4, .int (i32 v4))], [.int (i32 u0)], (khp (mO m [] []) c, N), 0, 0) _
  refine P_sto 77 [(5, .int (i32 u0)), (0, .ref (obo B v0)), (1, .ref 12), (2, .ref (tbr v2)), (3, .ref 188), (4, .int (i32 v4))] rfl (fun _ => rfl) ?_
  refine P_ld 79 (.int (i32 u0)) rfl (fun _ => rfl) ?_
  refine P_ifF 92 82 rfl rfl rfl r0 rfl (fun h13 => ?_) (fun h13 => ?_)
  · skip
    refine P_ld 93 (.ref (tbr v2)) rfl (fun _ => rfl) ?_
    refine PK_gfi 96 74 (m.2 74) rfl rfl q2.1 q2.2 rfl rfl ?_
    refine P_lv (b := [(0, .ref (obo B v0)), (1, .ref 12), (2, .ref (tbr v2)), (3, .ref 188), (4, .int (i32 v4)), (5, .int (i32 u0))]) rfl rfl ⟨rfl, rfl, rfl, rfl, rfl, rfl, trivial⟩ ?_
    exact dg_op_apply_b71_96 B w c N D bb v0 v2 v4 u0 ((m.2 74) v2) q0 q2 q4 r0 (kE_i (KCn_a hm.1 74) rfl _) m hm (jk [])
  · skip
    refine P_ld 83 (.ref (tbr v2)) rfl (fun _ => rfl) ?_
    refine PK_gfr 86 rfl rfl q2.1 q2.2 rfl ?_
    refine P_ld 88 (.int (i32 v4)) rfl (fun _ => rfl) ?_
    refine PK_ialt2 89 10 (m.2 89) rfl rfl rfl q2 q4 rfl ?_
    refine P_goto 96 rfl (fun _ => rfl) ?_
    refine P_lv (b := [(0, .ref (obo B v0)), (1, .ref 12), (2, .ref (tbr v2)), (3, .ref 188), (4, .int (i32 v4)), (5, .int (i32 u0))]) rfl rfl ⟨rfl, rfl, rfl, rfl, rfl, rfl, trivial⟩ ?_
    exact dg_op_apply_b71_96 B w c N D bb v0 v2 v4 u0 ((m.2 89) (65536 * v2 + v4)) q0 q2 q4 r0 (kE_i (KCn_a hm.1 89) rfl _) m hm (jk [])
def kfl_op_apply_b71_54 (v0 : Int) (v2 : Int) (m : mR) : Option (Int × mR) :=
  bnd (kf_tb_match_b103 v2 v0 m) fun y14 =>
  if y14 = (-1) then
    kfl_op_apply_b71_75 v0 v2 y14 0 m
  else
    kfl_op_apply_b71_75 v0 v2 y14 1 m
theorem dg_op_apply_b71_54 (B : oB) (w : wX) (c : Nat → Option am_C) (N D : Nat) (bb : Nat) (v0 : Int) (v2 : Int) (q0 : OKo B v0) (q2 : Rt v2) (m : mR) (hm : KCo B m) (j : Nat → Int) : PP bb w D pm_195 (54, [(0, .ref (obo B v0)), (1, .ref 12), (2, .ref (tbr v2)), (3, .ref 188), (4, .int (i32 (j 4)))], [], (khp m c, N), 0, 0) (QS (FO1 B c N) (kfl_op_apply_b71_54 v0 v2 m)) := by
  unfold kfl_op_apply_b71_54
  show PP bb w D pm_195 (54, [(0, .ref (obo B v0)), (1, .ref 12), (2, .ref (tbr v2)), (3, .ref 188), (4, .int (i32 (j 4)))], [], (khp (mO m [] []) c, N), 0, 0) _
  refine P_ld 55 (.ref (tbr v2)) rfl (fun _ => rfl) ?_
  refine P_ld 56 (.ref (obo B v0)) rfl (fun _ => rfl) ?_
  refine PK_gor 59 rfl rfl (OKr_o hm rfl rfl q0) (obr_o hm rfl) rfl ?_
  refine P_cp1 62 196 [.ref (tbr v2), .ref (obo B v0 + (3 + 1))] [] rfl (inv_vt (args := [.ref (obo B v0 + (3 + 1))]) (khp_t0 _ q2.1 q2.2) rfl rfl rfl) rfl (D_tb_match_b103 B w m c N D hm v2 v0 q2 q0) (fun y14 h15 => ?_)
  refine P_sto 64 [(4, .int (i32 y14)), (0, .ref (obo B v0)), (1, .ref 12), (2, .ref (tbr v2)), (3, .ref 188)] rfl (fun _ => rfl) ?_
  refine P_ld 66 (.int (i32 y14)) rfl (fun _ => rfl) ?_
  refine P_ld 67 (.int (i32 (-1))) rfl (fun _ => rfl) ?_
  refine P_icF 74 70 rfl rfl rfl h15 (l32 (-1) rfl) rfl (fun h17 => ?_) (fun h17 => ?_)
  · skip
    refine P_ld 75 (.int (i32 0)) rfl (fun _ => rfl) ?_
    refine P_lv (b := [(0, .ref (obo B v0)), (1, .ref 12), (2, .ref (tbr v2)), (3, .ref 188), (4, .int (i32 y14))]) rfl rfl ⟨rfl, rfl, rfl, rfl, rfl, trivial⟩ ?_
    exact dg_op_apply_b71_75 B w c N D bb v0 v2 y14 0 q0 q2 h15 (l32 0 rfl) m hm (jk [])
  · skip
    refine P_ld 71 (.int (i32 1)) rfl (fun _ => rfl) ?_
    refine P_goto 75 rfl (fun _ => rfl) ?_
    refine P_lv (b := [(0, .ref (obo B v0)), (1, .ref 12), (2, .ref (tbr v2)), (3, .ref 188), (4, .int (i32 y14))]) rfl rfl ⟨rfl, rfl, rfl, rfl, rfl, trivial⟩ ?_
    exact dg_op_apply_b71_75 B w c N D bb v0 v2 y14 1 q0 q2 h15 (l32 1 rfl) m hm (jk [])
def kfb_op_apply_b71_3 (v0 : Int) (v2 : Int) (s : Int × mR) : Option (Sum (Int × mR) (mR)) :=
  if (s.2.2 72) v2 ≤ s.1 then
    some (.inr s.2)
  else
    bnd (kf_nd_valueOf_b101_b105 ((s.2.2 79) (65536 * v2 + s.1)) ((s.2.2 80) (65536 * v2 + s.1)) v0 v0 s.2) fun y20 =>
    some (.inl (cut (s.1 + 1), (mO y20.2 [] [(103, upI (y20.2.2 103) (65536 * v0 + s.1) y20.1)])))
theorem dh_op_apply_b71_3 (B : oB) (w : wX) (c : Nat → Option am_C) (N D : Nat) (v0 : Int) (v2 : Int) (q0 : OKo B v0) (q2 : Rt v2) (bb : Nat) (Q2 : Sum (Int × mR) (mR) → ag_Re af_T → Prop) (H1 : ∀ s j, cs_op_apply_b71_3 B s → PP bb w D pm_195 (hd_op_apply_b71_3 B c N v0 v2 s j) (Q2 (.inl s))) (H2 : ∀ x j, cx_op_apply_b71_3 B x → PP bb w D pm_195 (ex_op_apply_b71_3 B c N v0 v2 x j) (Q2 (.inr x))) (s : Int × mR) (j : Nat → Int) (hs : cs_op_apply_b71_3 B s) : PP (bb + 1) w D pm_195 (hd_op_apply_b71_3 B c N v0 v2 s j) (QS Q2 (kfb_op_apply_b71_3 v0 v2 s)) := by
  obtain ⟨g4, gm⟩ := hs
  unfold kfb_op_apply_b71_3
  show PP (bb + 1) w D pm_195 (3, [(0, .ref (obo B v0)), (1, .ref 12), (2, .ref (tbr v2)), (3, .ref 188), (4, .int (i32 s.1))], [], (khp (mO s.2 [] []) c, N), 0, 0) _
  refine P1_ld 5 (.int (i32 s.1)) rfl (fun _ => rfl) ?_
  refine P_ld 6 (.ref (tbr v2)) rfl (fun _ => rfl) ?_
  refine PK_gfi 9 72 (s.2.2 72) rfl rfl q2.1 q2.2 rfl rfl ?_
  refine P_icF 54 12 rfl rfl rfl g4 (kE_i (KCn_a gm.1 72) rfl _) rfl (fun h19 => ?_) (fun h19 => ?_)
  · skip
    refine P_some ?_
    exact H2 s.2 (jk [(4, s.1)]) gm
  · skip
    refine P_ld 13 (.ref (obo B v0)) rfl (fun _ => rfl) ?_
    refine PK_gor 16 rfl rfl (OKr_o gm rfl rfl q0) (obr_o gm rfl) rfl ?_
    refine P_ld 18 (.int (i32 s.1)) rfl (fun _ => rfl) ?_
    refine P_ld 19 (.ref 12) rfl (fun _ => rfl) ?_
    refine PK_gf 22 (.ref 22) rfl rfl kd_12 rfl rfl rfl ?_
    refine P_ld 23 (.ref (tbr v2)) rfl (fun _ => rfl) ?_
    refine PK_gfr 26 rfl rfl q2.1 q2.2 rfl ?_
    refine P_ld 28 (.int (i32 s.1)) rfl (fun _ => rfl) ?_
    refine PK_ialt2 29 0 (s.2.2 79) rfl rfl rfl q2 g4 rfl ?_
    refine P_ld 30 (.ref (tbr v2)) rfl (fun _ => rfl) ?_
    refine PK_gfr 33 rfl rfl q2.1 q2.2 rfl ?_
    refine P_ld 35 (.int (i32 s.1)) rfl (fun _ => rfl) ?_
    refine PK_ialt2 36 1 (s.2.2 80) rfl rfl rfl q2 g4 rfl ?_
    refine P_ld 37 (.ref (obo B v0)) rfl (fun _ => rfl) ?_
    refine PK_gor 40 rfl rfl (OKr_o gm rfl rfl q0) (obr_o gm rfl) rfl ?_
    refine P_ld 41 (.ref (obo B v0)) rfl (fun _ => rfl) ?_
    refine PK_gor 44 rfl rfl (OKr_o gm rfl rfl q0) (obr_o gm rfl) rfl ?_
    refine P_co2 47 183 [.ref 22, .int (i32 ((s.2.2 79) (65536 * v2 + s.1))), .int (i32 ((s.2.2 80) (65536 * v2 + s.1))), .ref (obo B v0 + (1 + 1)), .ref (obo B v0 + (5 + 1))] [.int (i32 s.1), .ref (obo B v0 + (3 + 1))] rfl (fun _ => rfl) rfl (D_nd_valueOf_b101_b105 B w s.2 c N D gm ((s.2.2 79) (65536 * v2 + s.1)) ((s.2.2 80) (65536 * v2 + s.1)) v0 v0 (kE_i (KCn_a gm.1 79) rfl _) (kE_i (KCn_a gm.1 80) rfl _) q0 q0) (fun y20 h21 n22 => ?_)
    refine PK_lasto2 (a' := [(103, upI (y20.2.2 103) (65536 * v0 + s.1) y20.1)]) 48 3 (y20.2.2 103) rfl rfl rfl n22 rfl rfl q0 g4 rfl rfl ?_
    refine P_inc 51 [(4, .int (i32 (cut (s.1 + 1)))), (0, .ref (obo B v0)), (1, .ref 12), (2, .ref (tbr v2)), (3, .ref 188)] rfl rfl (by decide) rfl rfl ?_
    refine P_goto 3 rfl (fun _ => rfl) ?_
    refine P_some ?_
    refine P_lv (b := [(0, .ref (obo B v0)), (1, .ref 12), (2, .ref (tbr v2)), (3, .ref 188), (4, .int (i32 (cut (s.1 + 1))))]) rfl rfl ⟨rfl, rfl, rfl, rfl, rfl, trivial⟩ ?_
    exact H1 (cut (s.1 + 1), (mO y20.2 [] [(103, upI (y20.2.2 103) (65536 * v0 + s.1) y20.1)])) (jk []) ⟨cut_r, (KCo_mO n22 rfl rfl (KC6 n22 rfl) trivial ⟨(kE_ul (KCn_a n22.1 103) rfl h21), trivial⟩)⟩
def kf_op_apply_b71 (v0 : Int) (v2 : Int) (m : mR) : Option (Int × mR) :=
  bnd (whl (kfb_op_apply_b71_3 v0 v2) (0, m)) (fun e23 : mR =>
    kfl_op_apply_b71_54 v0 v2 e23)
theorem D_op_apply_b71 (B : oB) (w : wX) (m : mR) (c : Nat → Option am_C) (N D : Nat) (hm : KCo B m) (v0 : Int) (v2 : Int) (q0 : OKo B v0) (q2 : Rt v2) : PC w D 195 [.ref (obo B v0), .ref 12, .ref (tbr v2), .ref 188] (khp m c, N) (QS (FO1 B c N) (kf_op_apply_b71 v0 v2 m)) := by
  refine Pc_of (fun D bb => ?_) D
  unfold kf_op_apply_b71
  show PP bb w D pm_195 (0, [(0, .ref (obo B v0)), (1, .ref 12), (2, .ref (tbr v2)), (3, .ref 188)], [], (khp (mO m [] []) c, N), 0, 0) _
  refine P_ld 1 (.int (i32 0)) rfl (fun _ => rfl) ?_
  refine P_sto 3 [(4, .int (i32 0)), (0, .ref (obo B v0)), (1, .ref 12), (2, .ref (tbr v2)), (3, .ref 188)] rfl (fun _ => rfl) ?_
  refine P_lv (b := [(0, .ref (obo B v0)), (1, .ref 12), (2, .ref (tbr v2)), (3, .ref 188), (4, .int (i32 0))]) rfl rfl ⟨rfl, rfl, rfl, rfl, rfl, trivial⟩ ?_
  refine P_bnd ?_
  refine P_whl (fun bb Q2 H1 H2 s9 j9 hs9 => dh_op_apply_b71_3 B w c N D v0 v2 q0 q2 bb Q2 H1 H2 s9 j9 hs9) bb (fun e23 j q24 => ?_) (0, m) (jk []) ⟨(l32 0 rfl), hm⟩
  have q25 := q24
  show PP bb w D pm_195 (54, [(0, .ref (obo B v0)), (1, .ref 12), (2, .ref (tbr v2)), (3, .ref 188), (4, .int (i32 (j 4)))], [], (khp (mO e23 [] []) c, N), 0, 0) (QS _ (kfl_op_apply_b71_54 v0 v2 e23))
  exact dg_op_apply_b71_54 B w c N D bb v0 v2 q0 q2 e23 q25 (jk [(4, j 4)])
def kf_op_doStep_b71 (v0 : Int) (v2 : Int) (m : mR) : Option (Int × mR) :=
  if (m.2 52) v2 = 1 then
    bnd (kf_nd_valueOf_b101_b105 ((m.2 57) v2) ((m.2 58) v2) v0 v0 m) fun y10 =>
    some (cut y10.1, y10.2)
  else
    if (m.2 52) v2 = 2 then
      bnd (kf_op_apply_b71 v0 ((m.2 55) v2) m) fun y7 =>
      some (y7.1, y7.2)
    else
      bnd (kf_op_doDeed_b71 v0 ((m.2 56) v2) m) fun y3 =>
      some (0, y3.2)
theorem D_op_doStep_b71 (B : oB) (w : wX) (m : mR) (c : Nat → Option am_C) (N D : Nat) (hm : KCo B m) (v0 : Int) (v2 : Int) (q0 : OKo B v0) (q2 : R32 v2) : PC w D 194 [.ref (obo B v0), .ref 12, .int (i32 v2), .ref 188] (khp m c, N) (QS (FO1 B c N) (kf_op_doStep_b71 v0 v2 m)) := by
  refine Pc_of (fun D bb => ?_) D
  unfold kf_op_doStep_b71
  show PP bb w D pm_194 (0, [(0, .ref (obo B v0)), (1, .ref 12), (2, .int (i32 v2)), (3, .ref 188)], [], (khp (mO m [] []) c, N), 0, 0) _
  refine P_ld 1 (.ref 12) rfl (fun _ => rfl) ?_
  refine PK_gf 4 (.ref 59) rfl rfl kd_12 rfl rfl rfl ?_
  refine P_sto 6 [(4, .ref 59), (0, .ref (obo B v0)), (1, .ref 12), (2, .int (i32 v2)), (3, .ref 188)] rfl (fun _ => rfl) ?_
  refine P_ld 8 (.ref 59) rfl (fun _ => rfl) ?_
  refine PK_gf 11 (.ref 60) rfl rfl kd_59 rfl rfl rfl ?_
  refine P_ld 12 (.int (i32 v2)) rfl (fun _ => rfl) ?_
  refine PK_iald2 13 52 (m.2 52) rfl rfl rfl q2 rfl ?_
  refine P_ld 14 (.int (i32 1)) rfl (fun _ => rfl) ?_
  refine P_icE 48 17 rfl rfl rfl (kE_i (KCn_a hm.1 52) rfl _) (l32 1 rfl) rfl (fun h1 => ?_) (fun h1 => ?_)
  · skip
    refine P_ld 18 (.ref 12) rfl (fun _ => rfl) ?_
    refine PK_gf 21 (.ref 22) rfl rfl kd_12 rfl rfl rfl ?_
    refine P_ld 23 (.ref 59) rfl (fun _ => rfl) ?_
    refine PK_gf 26 (.ref 65) rfl rfl kd_59 rfl rfl rfl ?_
    refine P_ld 27 (.int (i32 v2)) rfl (fun _ => rfl) ?_
    refine PK_iald2 28 57 (m.2 57) rfl rfl rfl q2 rfl ?_
    refine P_ld 30 (.ref 59) rfl (fun _ => rfl) ?_
    refine PK_gf 33 (.ref 66) rfl rfl kd_59 rfl rfl rfl ?_
    refine P_ld 34 (.int (i32 v2)) rfl (fun _ => rfl) ?_
    refine PK_iald2 35 58 (m.2 58) rfl rfl rfl q2 rfl ?_
    refine P_ld 36 (.ref (obo B v0)) rfl (fun _ => rfl) ?_
    refine PK_gor 39 rfl rfl (OKr_o hm rfl rfl q0) (obr_o hm rfl) rfl ?_
    refine P_ld 40 (.ref (obo B v0)) rfl (fun _ => rfl) ?_
    refine PK_gor 43 rfl rfl (OKr_o hm rfl rfl q0) (obr_o hm rfl) rfl ?_
    refine P_co2 46 183 [.ref 22, .int (i32 ((m.2 57) v2)), .int (i32 ((m.2 58) v2)), .ref (obo B v0 + (1 + 1)), .ref (obo B v0 + (5 + 1))] [] rfl (fun _ => rfl) rfl (D_nd_valueOf_b101_b105 B w m c N D hm ((m.2 57) v2) ((m.2 58) v2) v0 v0 (kE_i (KCn_a hm.1 57) rfl _) (kE_i (KCn_a hm.1 58) rfl _) q0 q0) (fun y10 h11 n12 => ?_)
    refine P_op 47 (cut y10.1) _ rfl (fun _ => rfl) o_l2i ?_
    exact P_ro1 rfl cut_r n12
  · skip
    refine P_ld 50 (.ref 59) rfl (fun _ => rfl) ?_
    refine PK_gf 53 (.ref 60) rfl rfl kd_59 rfl rfl rfl ?_
    refine P_ld 54 (.int (i32 v2)) rfl (fun _ => rfl) ?_
    refine PK_iald2 55 52 (m.2 52) rfl rfl rfl q2 rfl ?_
    refine P_ld 56 (.int (i32 2)) rfl (fun _ => rfl) ?_
    refine P_icE 78 59 rfl rfl rfl (kE_i (KCn_a hm.1 52) rfl _) (l32 2 rfl) rfl (fun h2 => ?_) (fun h2 => ?_)
    · skip
      refine P_ld 60 (.ref (obo B v0)) rfl (fun _ => rfl) ?_
      refine P_ld 61 (.ref 12) rfl (fun _ => rfl) ?_
      refine P_ld 62 (.ref 12) rfl (fun _ => rfl) ?_
      refine PK_gf 65 (.ref 21) rfl rfl kd_12 rfl rfl rfl ?_
      refine P_ld 67 (.ref 59) rfl (fun _ => rfl) ?_
      refine PK_gf 70 (.ref 63) rfl rfl kd_59 rfl rfl rfl ?_
      refine P_ld 71 (.int (i32 v2)) rfl (fun _ => rfl) ?_
      refine PK_iald2 72 55 (m.2 55) rfl rfl rfl q2 rfl ?_
      refine PK_aatb2 73 rfl (kE_i (KCn_a hm.1 55) rfl _) rfl (fun t6 => ?_)
      refine P_ld 74 (.ref 188) rfl (fun _ => rfl) ?_
      refine P_co1 77 195 [.ref (obo B v0), .ref 12, .ref (tbr ((m.2 55) v2)), .ref 188] [] rfl (inv_vt (args := [.ref 188, .ref (tbr ((m.2 55) v2)), .ref 12]) (khp_oo hm rfl rfl q0) rfl rfl rfl) rfl (D_op_apply_b71 B w m c N D hm v0 ((m.2 55) v2) q0 t6) (fun y7 h8 n9 => ?_)
      exact P_ro1 rfl h8 n9
    · skip
      refine P_ld 79 (.ref (obo B v0)) rfl (fun _ => rfl) ?_
      refine P_ld 80 (.ref 12) rfl (fun _ => rfl) ?_
      refine P_ld 82 (.ref 59) rfl (fun _ => rfl) ?_
      refine PK_gf 85 (.ref 64) rfl rfl kd_59 rfl rfl rfl ?_
      refine P_ld 86 (.int (i32 v2)) rfl (fun _ => rfl) ?_
      refine PK_iald2 87 56 (m.2 56) rfl rfl rfl q2 rfl ?_
      refine P_ld 88 (.ref 188) rfl (fun _ => rfl) ?_
      refine P_co0 91 198 [.ref (obo B v0), .ref 12, .int (i32 ((m.2 56) v2)), .ref 188] [] rfl (inv_vt (args := [.ref 188, .int (i32 ((m.2 56) v2)), .ref 12]) (khp_oo hm rfl rfl q0) rfl rfl rfl) rfl (D_op_doDeed_b71 B w m c N D hm v0 ((m.2 56) v2) q0 (kE_i (KCn_a hm.1 56) rfl _)) (fun y3 n5 => ?_)
      refine P_ld 92 (.int (i32 0)) rfl (fun _ => rfl) ?_
      exact P_ro1 rfl (l32 0 rfl) n5
end X55DD
