noncomputable section X26A
def cs_begin_12 (s : Int × mR) : Prop := R32 s.1 ∧ Cn s.2
def cx_begin_12 : (mR) → Prop := (fun (e : mR) => Cn e)
def hd_begin_12 (c : Nat → Option am_C) (N : Nat) (s : Int × mR) (j : Nat → Int) : ag_St af_T := (12, [(0, .ref 189), (1, .int (i32 s.1))], [], (mhp s.2 c, N), 0, 0)
def ex_begin_12 (c : Nat → Option am_C) (N : Nat) : (mR) → (Nat → Int) → ag_St af_T := (fun (e : mR) (j : Nat → Int) => ((32, [(0, .ref 189), (1, .int (i32 (j 1)))], [], (mhp e c, N), 0, 0) : ag_St af_T))
def cs_begin_34 (s : Int × mR) : Prop := R32 s.1 ∧ Cn s.2
def cx_begin_34 : (mR) → Prop := (fun (e : mR) => Cn e)
def hd_begin_34 (c : Nat → Option am_C) (N : Nat) (s : Int × mR) (j : Nat → Int) : ag_St af_T := (34, [(0, .ref 189), (1, .int (i32 s.1))], [], (mhp s.2 c, N), 0, 0)
def ex_begin_34 (c : Nat → Option am_C) (N : Nat) : (mR) → (Nat → Int) → ag_St af_T := (fun (e : mR) (j : Nat → Int) => ((53, [(0, .ref 189), (1, .int (i32 (j 1)))], [], (mhp e c, N), 0, 0) : ag_St af_T))
def rfl_begin_53 (m : mR) : Option (Int × mR) :=
  some (0, (mO m [(148, 0), (149, 0), (150, 0), (151, 0), (152, 0)] []))
theorem dg_begin_53 (w : wX) (c : Nat → Option am_C) (N D : Nat) (bb : Nat) (m : mR) (hm : Cn m) (j : Nat → Int) : PP bb w D pm_211 (53, [(0, .ref 189), (1, .int (i32 (j 1)))], [], (mhp m c, N), 0, 0) (QS (FR0 c N) (rfl_begin_53 m)) := by
  unfold rfl_begin_53
  show PP bb w D pm_211 (53, [(0, .ref 189), (1, .int (i32 (j 1)))], [], (mhp (mO m [] []) c, N), 0, 0) _
  refine P_ld 54 (.ref 189) rfl (fun _ => rfl) ?_
  refine P_ld 55 (.int (i32 0)) rfl (fun _ => rfl) ?_
  refine P_pf (l' := [(148, 0)]) 58 0 rfl rfl rfl rfl rfl rfl ?_
  refine P_ld 59 (.ref 189) rfl (fun _ => rfl) ?_
  refine P_ld 60 (.int (i32 0)) rfl (fun _ => rfl) ?_
  refine P_pf (l' := [(148, 0), (149, 0)]) 63 0 rfl rfl rfl rfl rfl rfl ?_
  refine P_ld 64 (.ref 189) rfl (fun _ => rfl) ?_
  refine P_ld 65 (.int (i32 0)) rfl (fun _ => rfl) ?_
  refine P_pf (l' := [(148, 0), (149, 0), (150, 0)]) 68 0 rfl rfl rfl rfl rfl rfl ?_
  refine P_ld 69 (.ref 189) rfl (fun _ => rfl) ?_
  refine P_ld 70 (.int (i32 0)) rfl (fun _ => rfl) ?_
  refine P_pf (l' := [(148, 0), (149, 0), (150, 0), (151, 0)]) 73 0 rfl rfl rfl rfl rfl rfl ?_
  refine P_ld 74 (.ref 189) rfl (fun _ => rfl) ?_
  refine P_ld 75 (.int (i32 0)) rfl (fun _ => rfl) ?_
  refine P_pf (l' := [(148, 0), (149, 0), (150, 0), (151, 0), (152, 0)]) 78 0 rfl rfl rfl rfl rfl rfl ?_
  exact P_re0 rfl rfl (Cn_mO hm ⟨(rV_i rfl (l32 0 rfl)), (rV_i rfl (l32 0 rfl)), (rV_i rfl (l32 0 rfl)), (rV_i rfl (l32 0 rfl)), (rV_i rfl (l32 0 rfl)), trivial⟩ trivial)
def rfb_begin_34 (s : Int × mR) : Option (Sum (Int × mR) (mR)) :=
  if (8 : Int) ≤ s.1 then
    some (.inr s.2)
  else
    some (.inl (cut (s.1 + 1), (mO s.2 [] [(139, upI (s.2.2 139) s.1 0)])))
theorem dh_begin_34 (w : wX) (c : Nat → Option am_C) (N D : Nat) (bb : Nat) (Q2 : Sum (Int × mR) (mR) → ag_Re af_T → Prop) (H1 : ∀ s j, cs_begin_34 s → PP bb w D pm_211 (hd_begin_34 c N s j) (Q2 (.inl s))) (H2 : ∀ x j, cx_begin_34 x → PP bb w D pm_211 (ex_begin_34 c N x j) (Q2 (.inr x))) (s : Int × mR) (j : Nat → Int) (hs : cs_begin_34 s) : PP (bb + 1) w D pm_211 (hd_begin_34 c N s j) (QS Q2 (rfb_begin_34 s)) := by
  obtain ⟨g1, gm⟩ := hs
  unfold rfb_begin_34
  show PP (bb + 1) w D pm_211 (34, [(0, .ref 189), (1, .int (i32 s.1))], [], (mhp (mO s.2 [] []) c, N), 0, 0) _
  refine P1_ld 35 (.int (i32 s.1)) rfl (fun _ => rfl) ?_
  refine P_ld 37 (.int (i32 8)) rfl (fun _ => rfl) ?_
  refine P_icF 53 40 rfl rfl rfl g1 (l32 8 rfl) rfl (fun h4 => ?_) (fun h4 => ?_)
  · skip
    refine P_some ?_
    exact H2 s.2 (jk [(1, s.1)]) gm
  · skip
    refine P_gf 44 (.ref 293) rfl rfl rfl rfl rfl rfl ?_
    refine P_ld 45 (.int (i32 s.1)) rfl (fun _ => rfl) ?_
    refine P_ld 46 (.int (i32 0)) rfl (fun _ => rfl) ?_
    refine P_iast2 (a' := [(139, upI (s.2.2 139) s.1 0)]) 47 139 (s.2.2 139) rfl rfl rfl g1 rfl rfl ?_
    refine P_inc 50 [(1, .int (i32 (cut (s.1 + 1)))), (0, .ref 189)] rfl rfl (by decide) rfl rfl ?_
    refine P_goto 34 rfl (fun _ => rfl) ?_
    refine P_some ?_
    refine P_lv (b := [(0, .ref 189), (1, .int (i32 (cut (s.1 + 1))))]) rfl rfl ⟨rfl, rfl, trivial⟩ ?_
    exact H1 (cut (s.1 + 1), (mO s.2 [] [(139, upI (s.2.2 139) s.1 0)])) (jk []) ⟨cut_r, (Cn_mO gm trivial ⟨(rE_ui (Cn_a gm 139) rfl (l32 0 rfl)), trivial⟩)⟩
def rfl_begin_32 (m : mR) : Option (Int × mR) :=
  bnd (whl rfb_begin_34 (0, m)) (fun e5 : mR =>
    rfl_begin_53 e5)
theorem dg_begin_32 (w : wX) (c : Nat → Option am_C) (N D : Nat) (bb : Nat) (m : mR) (hm : Cn m) (j : Nat → Int) : PP bb w D pm_211 (32, [(0, .ref 189), (1, .int (i32 (j 1)))], [], (mhp m c, N), 0, 0) (QS (FR0 c N) (rfl_begin_32 m)) := by
  unfold rfl_begin_32
  show PP bb w D pm_211 (32, [(0, .ref 189), (1, .int (i32 (j 1)))], [], (mhp (mO m [] []) c, N), 0, 0) _
  refine P_ld 33 (.int (i32 0)) rfl (fun _ => rfl) ?_
  refine P_sto 34 [(1, .int (i32 0)), (0, .ref 189)] rfl (fun _ => rfl) ?_
  refine P_lv (b := [(0, .ref 189), (1, .int (i32 0))]) rfl rfl ⟨rfl, rfl, trivial⟩ ?_
  refine P_bnd ?_
  refine P_whl (fun bb Q2 H1 H2 s9 j9 hs9 => dh_begin_34 w c N D bb Q2 H1 H2 s9 j9 hs9) bb (fun e5 j q6 => ?_) (0, m) (jk []) ⟨(l32 0 rfl), hm⟩
  have q7 := q6
  show PP bb w D pm_211 (53, [(0, .ref 189), (1, .int (i32 (j 1)))], [], (mhp (mO e5 [] []) c, N), 0, 0) (QS _ (rfl_begin_53 e5))
  exact dg_begin_53 w c N D bb e5 q7 (jk [(1, j 1)])
def rfb_begin_12 (s : Int × mR) : Option (Sum (Int × mR) (mR)) :=
  if (512 : Int) ≤ s.1 then
    some (.inr s.2)
  else
    some (.inl (cut (s.1 + 1), (mO s.2 [] [(138, upI (s.2.2 138) s.1 0)])))
theorem dh_begin_12 (w : wX) (c : Nat → Option am_C) (N D : Nat) (bb : Nat) (Q2 : Sum (Int × mR) (mR) → ag_Re af_T → Prop) (H1 : ∀ s j, cs_begin_12 s → PP bb w D pm_211 (hd_begin_12 c N s j) (Q2 (.inl s))) (H2 : ∀ x j, cx_begin_12 x → PP bb w D pm_211 (ex_begin_12 c N x j) (Q2 (.inr x))) (s : Int × mR) (j : Nat → Int) (hs : cs_begin_12 s) : PP (bb + 1) w D pm_211 (hd_begin_12 c N s j) (QS Q2 (rfb_begin_12 s)) := by
  obtain ⟨g1, gm⟩ := hs
  unfold rfb_begin_12
  show PP (bb + 1) w D pm_211 (12, [(0, .ref 189), (1, .int (i32 s.1))], [], (mhp (mO s.2 [] []) c, N), 0, 0) _
  refine P1_ld 13 (.int (i32 s.1)) rfl (fun _ => rfl) ?_
  refine P_ld 16 (.int (i32 512)) rfl (fun _ => rfl) ?_
  refine P_icF 32 19 rfl rfl rfl g1 (l32 512 rfl) rfl (fun h9 => ?_) (fun h9 => ?_)
  · skip
    refine P_some ?_
    exact H2 s.2 (jk [(1, s.1)]) gm
  · skip
    refine P_gf 23 (.ref 292) rfl rfl rfl rfl rfl rfl ?_
    refine P_ld 24 (.int (i32 s.1)) rfl (fun _ => rfl) ?_
    refine P_ld 25 (.long (i64 0)) rfl (fun _ => rfl) ?_
    refine P_last2 (a' := [(138, upI (s.2.2 138) s.1 0)]) 26 138 (s.2.2 138) rfl rfl rfl g1 rfl rfl ?_
    refine P_inc 29 [(1, .int (i32 (cut (s.1 + 1)))), (0, .ref 189)] rfl rfl (by decide) rfl rfl ?_
    refine P_goto 12 rfl (fun _ => rfl) ?_
    refine P_some ?_
    refine P_lv (b := [(0, .ref 189), (1, .int (i32 (cut (s.1 + 1))))]) rfl rfl ⟨rfl, rfl, trivial⟩ ?_
    exact H1 (cut (s.1 + 1), (mO s.2 [] [(138, upI (s.2.2 138) s.1 0)])) (jk []) ⟨cut_r, (Cn_mO gm trivial ⟨(rE_ul (Cn_a gm 138) rfl (l64 0 rfl)), trivial⟩)⟩
def rf_begin (m : mR) : Option (Int × mR) :=
  bnd (whl rfb_begin_12 (0, (mO m [(128, 0), (130, (-1))] []))) (fun e10 : mR =>
    rfl_begin_32 e10)
theorem D_begin (w : wX) (m : mR) (c : Nat → Option am_C) (N D : Nat) (hm : Cn m) : PC w D 211 [.ref 189] (mhp m c, N) (QS (FR0 c N) (rf_begin m)) := by
  refine Pc_of (fun D bb => ?_) D
  unfold rf_begin
  show PP bb w D pm_211 (0, [(0, .ref 189)], [], (mhp (mO m [] []) c, N), 0, 0) _
  refine P_ld 1 (.ref 189) rfl (fun _ => rfl) ?_
  refine P_ld 2 (.int (i32 0)) rfl (fun _ => rfl) ?_
  refine P_pf (l' := [(128, 0)]) 5 0 rfl rfl rfl rfl rfl rfl ?_
  refine P_ld 6 (.ref 189) rfl (fun _ => rfl) ?_
  refine P_ld 7 (.int (i32 (-1))) rfl (fun _ => rfl) ?_
  refine P_pf (l' := [(128, 0), (130, (-1))]) 10 (-1) rfl rfl rfl rfl rfl rfl ?_
  refine P_ld 11 (.int (i32 0)) rfl (fun _ => rfl) ?_
  refine P_sto 12 [(1, .int (i32 0)), (0, .ref 189)] rfl (fun _ => rfl) ?_
  refine P_lv (b := [(0, .ref 189), (1, .int (i32 0))]) rfl rfl ⟨rfl, rfl, trivial⟩ ?_
  refine P_bnd ?_
  refine P_whl (fun bb Q2 H1 H2 s9 j9 hs9 => dh_begin_12 w c N D bb Q2 H1 H2 s9 j9 hs9) bb (fun e10 j q11 => ?_) (0, (mO m [(128, 0), (130, (-1))] [])) (jk []) ⟨(l32 0 rfl), (Cn_mO hm ⟨(rV_i rfl (l32 0 rfl)), (rV_i rfl (l32 (-1) rfl)), trivial⟩ trivial)⟩
  have q12 := q11
  show PP bb w D pm_211 (32, [(0, .ref 189), (1, .int (i32 (j 1)))], [], (mhp (mO e10 [] []) c, N), 0, 0) (QS _ (rfl_begin_32 e10))
  exact dg_begin_32 w c N D bb e10 q12 (jk [(1, j 1)])
def rfl_byteAt1_18 (u0 : Int) (m : mR) : Option Int :=
  some u0
theorem dg_byteAt1_18 (w : wX) (c : Nat → Option am_C) (N D : Nat) (bb : Nat) (u0 : Int) (r0 : R32 u0) (m : mR) (hm : Cn m) (j : Nat → Int) : PP bb w D pm_213 (18, [(0, .ref 189), (1, .int (i32 (j 1)))], [.int (i32 u0)], (mhp m c, N), 0, 0) (QS (FP1 (mhp m c, N)) (rfl_byteAt1_18 u0 m)) := by
  unfold rfl_byteAt1_18
  show PP bb w D pm_213 (18, [(0, .ref 189), (1, .int (i32 (j 1)))], [.int (i32 u0)], (mhp (mO m [] []) c, N), 0, 0) _
  exact P_rp1 rfl r0
def rf_byteAt1 (v1 : Int) (m : mR) : Option Int :=
  if m.1 6 ≤ v1 then
    rfl_byteAt1_18 (-1) m
  else
    rfl_byteAt1_18 ((m.2 4) v1) m
theorem D_byteAt1 (w : wX) (m : mR) (c : Nat → Option am_C) (N D : Nat) (hm : Cn m) (v1 : Int) (q1 : R32 v1) : PC w D 213 [.ref 189, .int (i32 v1)] (mhp m c, N) (QS (FP1 (mhp m c, N)) (rf_byteAt1 v1 m)) := by
  refine Pc_of (fun D bb => ?_) D
  unfold rf_byteAt1
  show PP bb w D pm_213 (0, [(0, .ref 189), (1, .int (i32 v1))], [], (mhp (mO m [] []) c, N), 0, 0) _
  refine P_ld 1 (.int (i32 v1)) rfl (fun _ => rfl) ?_
  refine P_gf 5 (.int (i32 (m.1 6))) rfl rfl rfl rfl rfl rfl ?_
  refine P_icF 17 8 rfl rfl rfl q1 (Cn_i hm 6 rfl) rfl (fun h1 => ?_) (fun h1 => ?_)
  · skip
    refine P_ld 18 (.int (i32 (-1))) rfl (fun _ => rfl) ?_
    exact dg_byteAt1_18 w c N D bb (-1) (l32 (-1) rfl) m hm (jk [(1, v1)])
  · skip
    refine P_gf 12 (.ref 193) rfl rfl rfl rfl rfl rfl ?_
    refine P_ld 13 (.int (i32 v1)) rfl (fun _ => rfl) ?_
    refine P_iald2 14 4 (m.2 4) rfl rfl rfl q1 rfl ?_
    refine P_goto 18 rfl (fun _ => rfl) ?_
    exact dg_byteAt1_18 w c N D bb ((m.2 4) v1) (rE_i (Cn_a hm 4) rfl _) m hm (jk [(1, v1)])
def rfl_isSmall_17 (u0 : Int) : Option Int :=
  some u0
theorem dg_isSmall_17 (w : wX) (t : af_T) (D : Nat) (bb : Nat) (u0 : Int) (r0 : R32 u0) (j : Nat → Int) : PP bb w D pm_215 (17, [(0, .int (i32 (j 0)))], [.int (i32 u0)], t, 0, 0) (QS (FP1 t) (rfl_isSmall_17 u0)) := by
  unfold rfl_isSmall_17
  exact P_rp1 rfl r0
def rf_isSmall (v0 : Int) : Option Int :=
  if v0 < 97 then
    rfl_isSmall_17 0
  else
    if (122 : Int) < v0 then
      rfl_isSmall_17 0
    else
      rfl_isSmall_17 1
theorem D_isSmall (w : wX) (t : af_T) (D : Nat) (v0 : Int) (q0 : R32 v0) : PC w D 215 [.int (i32 v0)] t (QS (FP1 t) (rf_isSmall v0)) := by
  refine Pc_of (fun D bb => ?_) D
  unfold rf_isSmall
  show PP bb w D pm_215 (0, [(0, .int (i32 v0))], [], t, 0, 0) _
  refine P_ld 1 (.int (i32 v0)) rfl (fun _ => rfl) ?_
  refine P_ld 3 (.int (i32 97)) rfl (fun _ => rfl) ?_
  refine P_icF 16 6 rfl rfl rfl q0 (l32 97 rfl) rfl (fun h1 => ?_) (fun h1 => ?_)
  · skip
    refine P_ld 17 (.int (i32 0)) rfl (fun _ => rfl) ?_
    exact dg_isSmall_17 w t D bb 0 (l32 0 rfl) (jk [(0, v0)])
  · skip
    refine P_ld 7 (.int (i32 v0)) rfl (fun _ => rfl) ?_
    refine P_ld 9 (.int (i32 122)) rfl (fun _ => rfl) ?_
    refine P_icF 16 12 rfl rfl rfl q0 (l32 122 rfl) rfl (fun h2 => ?_) (fun h2 => ?_)
    · skip
      refine P_ld 17 (.int (i32 0)) rfl (fun _ => rfl) ?_
      exact dg_isSmall_17 w t D bb 0 (l32 0 rfl) (jk [(0, v0)])
    · skip
      refine P_ld 13 (.int (i32 1)) rfl (fun _ => rfl) ?_
      refine P_goto 17 rfl (fun _ => rfl) ?_
      exact dg_isSmall_17 w t D bb 1 (l32 1 rfl) (jk [(0, v0)])
def rfl_isDigit_17 (u0 : Int) : Option Int :=
  some u0
theorem dg_isDigit_17 (w : wX) (t : af_T) (D : Nat) (bb : Nat) (u0 : Int) (r0 : R32 u0) (j : Nat → Int) : PP bb w D pm_216 (17, [(0, .int (i32 (j 0)))], [.int (i32 u0)], t, 0, 0) (QS (FP1 t) (rfl_isDigit_17 u0)) := by
  unfold rfl_isDigit_17
  exact P_rp1 rfl r0
def rf_isDigit (v0 : Int) : Option Int :=
  if v0 < 48 then
    rfl_isDigit_17 0
  else
    if (57 : Int) < v0 then
      rfl_isDigit_17 0
    else
      rfl_isDigit_17 1
theorem D_isDigit (w : wX) (t : af_T) (D : Nat) (v0 : Int) (q0 : R32 v0) : PC w D 216 [.int (i32 v0)] t (QS (FP1 t) (rf_isDigit v0)) := by
  refine Pc_of (fun D bb => ?_) D
  unfold rf_isDigit
  show PP bb w D pm_216 (0, [(0, .int (i32 v0))], [], t, 0, 0) _
  refine P_ld 1 (.int (i32 v0)) rfl (fun _ => rfl) ?_
  refine P_ld 3 (.int (i32 48)) rfl (fun _ => rfl) ?_
  refine P_icF 16 6 rfl rfl rfl q0 (l32 48 rfl) rfl (fun h1 => ?_) (fun h1 => ?_)
  · skip
    refine P_ld 17 (.int (i32 0)) rfl (fun _ => rfl) ?_
    exact dg_isDigit_17 w t D bb 0 (l32 0 rfl) (jk [(0, v0)])
  · skip
    refine P_ld 7 (.int (i32 v0)) rfl (fun _ => rfl) ?_
    refine P_ld 9 (.int (i32 57)) rfl (fun _ => rfl) ?_
    refine P_icF 16 12 rfl rfl rfl q0 (l32 57 rfl) rfl (fun h2 => ?_) (fun h2 => ?_)
    · skip
      refine P_ld 17 (.int (i32 0)) rfl (fun _ => rfl) ?_
      exact dg_isDigit_17 w t D bb 0 (l32 0 rfl) (jk [(0, v0)])
    · skip
      refine P_ld 13 (.int (i32 1)) rfl (fun _ => rfl) ?_
      refine P_goto 17 rfl (fun _ => rfl) ?_
      exact dg_isDigit_17 w t D bb 1 (l32 1 rfl) (jk [(0, v0)])
def cs_keyword_4 (s : Int × Int) : Prop := R32 s.1 ∧ R32 s.2
def cx_keyword_4 : (Sum (Int) (Unit)) → Prop := (sel (fun (e : Int) => R32 e) (fun (e : Unit) => True))
def hd_keyword_4 (c : Nat → Option am_C) (N : Nat) (m : mR) (s : Int × Int) (j : Nat → Int) : ag_St af_T := (4, [(0, .ref 189), (1, .int (i32 s.1)), (2, .int (i32 s.2)), (3, .int (i32 (j 3))), (4, .int (i32 (j 4))), (5, .int (i32 (j 5)))], [], (mhp m c, N), 0, 0)
def ex_keyword_4 (c : Nat → Option am_C) (N : Nat) (m : mR) : (Sum (Int) (Unit)) → (Nat → Int) → ag_St af_T := (sel (fun (e : Int) (j : Nat → Int) => ((100, [(0, .ref 189), (1, .int (i32 (j 1))), (2, .int (i32 e)), (3, .int (i32 (j 3))), (4, .int (i32 (j 4))), (5, .int (i32 (j 5)))], [], (mhp m c, N), 0, 0) : ag_St af_T)) (fun (e : Unit) (j : Nat → Int) => ((118, [(0, .ref 189), (1, .int (i32 (j 1))), (2, .int (i32 (j 2))), (3, .int (i32 (j 3))), (4, .int (i32 (j 4))), (5, .int (i32 (j 5)))], [], (mhp m c, N), 0, 0) : ag_St af_T)))
def cs_keyword_12 (s : Int) : Prop := R32 s
def cx_keyword_12 : (Int) → Prop := (fun (e : Int) => R32 e)
def hd_keyword_12 (c : Nat → Option am_C) (N : Nat) (v1 : Int) (v2 : Int) (m : mR) (s : Int) (j : Nat → Int) : ag_St af_T := (12, [(0, .ref 189), (1, .int (i32 v1)), (2, .int (i32 v2)), (3, .int (i32 s)), (4, .int (i32 (j 4))), (5, .int (i32 (j 5)))], [], (mhp m c, N), 0, 0)
def ex_keyword_12 (c : Nat → Option am_C) (N : Nat) (v1 : Int) (v2 : Int) (m : mR) : (Int) → (Nat → Int) → ag_St af_T := (fun (e : Int) (j : Nat → Int) => ((29, [(0, .ref 189), (1, .int (i32 v1)), (2, .int (i32 v2)), (3, .int (i32 e)), (4, .int (i32 (j 4))), (5, .int (i32 (j 5)))], [], (mhp m c, N), 0, 0) : ag_St af_T))
def cs_keyword_47 (s : Int × Int) : Prop := R32 s.1 ∧ R32 s.2
def cx_keyword_47 : (Int) → Prop := (fun (e : Int) => R32 e)
def hd_keyword_47 (c : Nat → Option am_C) (N : Nat) (v1 : Int) (v2 : Int) (v3 : Int) (m : mR) (s : Int × Int) (j : Nat → Int) : ag_St af_T := (47, [(0, .ref 189), (1, .int (i32 v1)), (2, .int (i32 v2)), (3, .int (i32 v3)), (4, .int (i32 s.1)), (5, .int (i32 s.2))], [], (mhp m c, N), 0, 0)
def ex_keyword_47 (c : Nat → Option am_C) (N : Nat) (v1 : Int) (v2 : Int) (v3 : Int) (m : mR) : (Int) → (Nat → Int) → ag_St af_T := (fun (e : Int) (j : Nat → Int) => ((95, [(0, .ref 189), (1, .int (i32 v1)), (2, .int (i32 v2)), (3, .int (i32 v3)), (4, .int (i32 e)), (5, .int (i32 (j 5)))], [], (mhp m c, N), 0, 0) : ag_St af_T))
def rfl_keyword_100 (v2 : Int) (m : mR) : Option Int :=
  some (cut (300 + v2))
theorem dg_keyword_100 (w : wX) (c : Nat → Option am_C) (N D : Nat) (bb : Nat) (v2 : Int) (q2 : R32 v2) (m : mR) (hm : Cn m) (j : Nat → Int) : PP bb w D pm_217 (100, [(0, .ref 189), (1, .int (i32 (j 1))), (2, .int (i32 v2)), (3, .int (i32 (j 3))), (4, .int (i32 (j 4))), (5, .int (i32 (j 5)))], [], (mhp m c, N), 0, 0) (QS (FP1 (mhp m c, N)) (rfl_keyword_100 v2 m)) := by
  unfold rfl_keyword_100
  show PP bb w D pm_217 (100, [(0, .ref 189), (1, .int (i32 (j 1))), (2, .int (i32 v2)), (3, .int (i32 (j 3))), (4, .int (i32 (j 4))), (5, .int (i32 (j 5)))], [], (mhp (mO m [] []) c, N), 0, 0) _
  refine P_ld 103 (.int (i32 300)) rfl (fun _ => rfl) ?_
  refine P_ld 104 (.int (i32 v2)) rfl (fun _ => rfl) ?_
  refine P_op 105 (cut (300 + v2)) _ rfl (fun _ => rfl) o_add ?_
  exact P_rp1 rfl cut_r
def rfl_keyword_95 (v1 : Int) (v2 : Int) (v3 : Int) (v4 : Int) (m : mR) : Option (Sum (Int × Int) (Sum (Int) (Unit))) :=
  if v4 = 0 then
    some (.inl (cut (v1 + (cut (v3 + 1))), cut (v2 + 1)))
  else
    some (.inr (.inl v2))
theorem dg_keyword_95 (w : wX) (c : Nat → Option am_C) (N D : Nat) (bb : Nat) (v1 : Int) (v2 : Int) (v3 : Int) (v4 : Int) (q1 : R32 v1) (q2 : R32 v2) (q3 : R32 v3) (q4 : R32 v4) (m : mR) (hm : Cn m) (j : Nat → Int) (Q2 : Sum (Int × Int) (Sum (Int) (Unit)) → ag_Re af_T → Prop) (H1 : ∀ s j, cs_keyword_4 s → PP bb w D pm_217 (hd_keyword_4 c N m s j) (Q2 (.inl s))) (H2 : ∀ x j, cx_keyword_4 x → PP bb w D pm_217 (ex_keyword_4 c N m x j) (Q2 (.inr x))) : PP bb w D pm_217 (95, [(0, .ref 189), (1, .int (i32 v1)), (2, .int (i32 v2)), (3, .int (i32 v3)), (4, .int (i32 v4)), (5, .int (i32 (j 5)))], [], (mhp m c, N), 0, 0) (QS Q2 (rfl_keyword_95 v1 v2 v3 v4 m)) := by
  unfold rfl_keyword_95
  show PP bb w D pm_217 (95, [(0, .ref 189), (1, .int (i32 v1)), (2, .int (i32 v2)), (3, .int (i32 v3)), (4, .int (i32 v4)), (5, .int (i32 (j 5)))], [], (mhp (mO m [] []) c, N), 0, 0) _
  refine P_ld 97 (.int (i32 v4)) rfl (fun _ => rfl) ?_
  refine P_ifF 106 100 rfl rfl rfl q4 rfl (fun h4 => ?_) (fun h4 => ?_)
  · skip
    refine P_ld 107 (.int (i32 v1)) rfl (fun _ => rfl) ?_
    refine P_ld 108 (.int (i32 v3)) rfl (fun _ => rfl) ?_
    refine P_ld 109 (.int (i32 1)) rfl (fun _ => rfl) ?_
    refine P_op 110 (cut (v3 + 1)) _ rfl (fun _ => rfl) o_add ?_
    refine P_op 111 (cut (v1 + (cut (v3 + 1)))) _ rfl (fun _ => rfl) o_add ?_
    refine P_sto 112 [(1, .int (i32 (cut (v1 + (cut (v3 + 1)))))), (0, .ref 189), (2, .int (i32 v2)), (3, .int (i32 v3)), (4, .int (i32 v4)), (5, .int (i32 (j 5)))] rfl (fun _ => rfl) ?_
    refine P_inc 115 [(2, .int (i32 (cut (v2 + 1)))), (1, .int (i32 (cut (v1 + (cut (v3 + 1)))))), (0, .ref 189), (3, .int (i32 v3)), (4, .int (i32 v4)), (5, .int (i32 (j 5)))] rfl rfl (by decide) rfl rfl ?_
    refine P_goto 4 rfl (fun _ => rfl) ?_
    refine P_some ?_
    refine P_lv (b := [(0, .ref 189), (1, .int (i32 (cut (v1 + (cut (v3 + 1)))))), (2, .int (i32 (cut (v2 + 1)))), (3, .int (i32 v3)), (4, .int (i32 v4)), (5, .int (i32 (j 5)))]) rfl rfl ⟨rfl, rfl, rfl, rfl, rfl, rfl, trivial⟩ ?_
    exact H1 (cut (v1 + (cut (v3 + 1))), cut (v2 + 1)) (jk [(3, v3), (4, v4), (5, j 5)]) ⟨cut_r, cut_r⟩
  · skip
    refine P_some ?_
    exact H2 (.inl v2) (jk [(1, v1), (3, v3), (4, v4), (5, j 5)]) q2
def rfl_keyword_87 (v1 : Int) (v2 : Int) (v3 : Int) (v5 : Int) (u0 : Int) (m : mR) : Option (Sum (Int × Int) (Int)) :=
  some (.inl (u0, cut (v5 + 1)))
theorem dg_keyword_87 (w : wX) (c : Nat → Option am_C) (N D : Nat) (bb : Nat) (v1 : Int) (v2 : Int) (v3 : Int) (v5 : Int) (u0 : Int) (q1 : R32 v1) (q2 : R32 v2) (q3 : R32 v3) (q5 : R32 v5) (r0 : R32 u0) (m : mR) (hm : Cn m) (j : Nat → Int) (Q2 : Sum (Int × Int) (Int) → ag_Re af_T → Prop) (H1 : ∀ s j, cs_keyword_47 s → PP bb w D pm_217 (hd_keyword_47 c N v1 v2 v3 m s j) (Q2 (.inl s))) (H2 : ∀ x j, cx_keyword_47 x → PP bb w D pm_217 (ex_keyword_47 c N v1 v2 v3 m x j) (Q2 (.inr x))) : PP bb w D pm_217 (87, [(0, .ref 189), (1, .int (i32 v1)), (2, .int (i32 v2)), (3, .int (i32 v3)), (4, .int (i32 (j 4))), (5, .int (i32 v5))], [.int (i32 u0)], (mhp m c, N), 0, 0) (QS Q2 (rfl_keyword_87 v1 v2 v3 v5 u0 m)) := by
  unfold rfl_keyword_87
  show PP bb w D pm_217 (87, [(0, .ref 189), (1, .int (i32 v1)), (2, .int (i32 v2)), (3, .int (i32 v3)), (4, .int (i32 (j 4))), (5, .int (i32 v5))], [.int (i32 u0)], (mhp (mO m [] []) c, N), 0, 0) _
  refine P_sto 89 [(4, .int (i32 u0)), (0, .ref 189), (1, .int (i32 v1)), (2, .int (i32 v2)), (3, .int (i32 v3)), (5, .int (i32 v5))] rfl (fun _ => rfl) ?_
  refine P_inc 92 [(5, .int (i32 (cut (v5 + 1)))), (4, .int (i32 u0)), (0, .ref 189), (1, .int (i32 v1)), (2, .int (i32 v2)), (3, .int (i32 v3))] rfl rfl (by decide) rfl rfl ?_
  refine P_goto 47 rfl (fun _ => rfl) ?_
  refine P_some ?_
  refine P_lv (b := [(0, .ref 189), (1, .int (i32 v1)), (2, .int (i32 v2)), (3, .int (i32 v3)), (4, .int (i32 u0)), (5, .int (i32 (cut (v5 + 1))))]) rfl rfl ⟨rfl, rfl, rfl, rfl, rfl, rfl, trivial⟩ ?_
  exact H1 (u0, cut (v5 + 1)) (jk []) ⟨r0, cut_r⟩
def rfb_keyword_47 (v1 : Int) (v2 : Int) (v3 : Int) (m : mR) (s : Int × Int) : Option (Sum (Int × Int) (Int)) :=
  if v3 ≤ s.2 then
    some (.inr s.1)
  else
    if s.1 = 0 then
      some (.inr s.1)
    else
      if (m.2 4) (cut ((m.1 8) + s.2)) = (m.2 0) (cut (v1 + s.2)) then
        rfl_keyword_87 v1 v2 v3 s.2 1 m
      else
        rfl_keyword_87 v1 v2 v3 s.2 0 m
theorem dh_keyword_47 (w : wX) (c : Nat → Option am_C) (N D : Nat) (v1 : Int) (v2 : Int) (v3 : Int) (q1 : R32 v1) (q2 : R32 v2) (q3 : R32 v3) (m : mR) (hm : Cn m) (bb : Nat) (Q2 : Sum (Int × Int) (Int) → ag_Re af_T → Prop) (H1 : ∀ s j, cs_keyword_47 s → PP bb w D pm_217 (hd_keyword_47 c N v1 v2 v3 m s j) (Q2 (.inl s))) (H2 : ∀ x j, cx_keyword_47 x → PP bb w D pm_217 (ex_keyword_47 c N v1 v2 v3 m x j) (Q2 (.inr x))) (s : Int × Int) (j : Nat → Int) (hs : cs_keyword_47 s) : PP (bb + 1) w D pm_217 (hd_keyword_47 c N v1 v2 v3 m s j) (QS Q2 (rfb_keyword_47 v1 v2 v3 m s)) := by
  obtain ⟨g4, g5⟩ := hs
  unfold rfb_keyword_47
  show PP (bb + 1) w D pm_217 (47, [(0, .ref 189), (1, .int (i32 v1)), (2, .int (i32 v2)), (3, .int (i32 v3)), (4, .int (i32 s.1)), (5, .int (i32 s.2))], [], (mhp (mO m [] []) c, N), 0, 0) _
  refine P1_ld 49 (.int (i32 s.2)) rfl (fun _ => rfl) ?_
  refine P_ld 50 (.int (i32 v3)) rfl (fun _ => rfl) ?_
  refine P_icF 95 53 rfl rfl rfl g5 q3 rfl (fun h6 => ?_) (fun h6 => ?_)
  · skip
    refine P_some ?_
    exact H2 s.1 (jk [(5, s.2)]) g4
  · skip
    refine P_ld 55 (.int (i32 s.1)) rfl (fun _ => rfl) ?_
    refine P_ifF 95 58 rfl rfl rfl g4 rfl (fun h7 => ?_) (fun h7 => ?_)
    · skip
      refine P_some ?_
      exact H2 s.1 (jk [(5, s.2)]) g4
    · skip
      refine P_gf 62 (.ref 193) rfl rfl rfl rfl rfl rfl ?_
      refine P_gf 66 (.int (i32 (m.1 8))) rfl rfl rfl rfl rfl rfl ?_
      refine P_ld 68 (.int (i32 s.2)) rfl (fun _ => rfl) ?_
      refine P_op 69 (cut ((m.1 8) + s.2)) _ rfl (fun _ => rfl) o_add ?_
      refine P_iald2 70 4 (m.2 4) rfl rfl rfl cut_r rfl ?_
      refine P_gf 74 (.ref 190) rfl rfl rfl rfl rfl rfl ?_
      refine P_ld 75 (.int (i32 v1)) rfl (fun _ => rfl) ?_
      refine P_ld 77 (.int (i32 s.2)) rfl (fun _ => rfl) ?_
      refine P_op 78 (cut (v1 + s.2)) _ rfl (fun _ => rfl) o_add ?_
      refine P_iald2 79 0 (m.2 0) rfl rfl rfl cut_r rfl ?_
      refine P_icE 86 82 rfl rfl rfl (rE_i (Cn_a hm 4) rfl _) (rE_i (Cn_a hm 0) rfl _) rfl (fun h8 => ?_) (fun h8 => ?_)
      · skip
        refine P_ld 83 (.int (i32 1)) rfl (fun _ => rfl) ?_
        refine P_goto 87 rfl (fun _ => rfl) ?_
        exact dg_keyword_87 w c N D bb v1 v2 v3 s.2 1 q1 q2 q3 g5 (l32 1 rfl) m hm (jk [(4, s.1)]) Q2 H1 H2
      · skip
        refine P_ld 87 (.int (i32 0)) rfl (fun _ => rfl) ?_
        exact dg_keyword_87 w c N D bb v1 v2 v3 s.2 0 q1 q2 q3 g5 (l32 0 rfl) m hm (jk [(4, s.1)]) Q2 H1 H2
def rfl_keyword_42 (v1 : Int) (v2 : Int) (v3 : Int) (u0 : Int) (m : mR) : Option (Sum (Int × Int) (Sum (Int) (Unit))) :=
  bnd (whl (rfb_keyword_47 v1 v2 v3 m) (u0, 0)) (fun e9 : Int =>
    rfl_keyword_95 v1 v2 v3 e9 m)
theorem dg_keyword_42 (w : wX) (c : Nat → Option am_C) (N D : Nat) (bb : Nat) (v1 : Int) (v2 : Int) (v3 : Int) (u0 : Int) (q1 : R32 v1) (q2 : R32 v2) (q3 : R32 v3) (r0 : R32 u0) (m : mR) (hm : Cn m) (j : Nat → Int) (Q2 : Sum (Int × Int) (Sum (Int) (Unit)) → ag_Re af_T → Prop) (H1 : ∀ s j, cs_keyword_4 s → PP bb w D pm_217 (hd_keyword_4 c N m s j) (Q2 (.inl s))) (H2 : ∀ x j, cx_keyword_4 x → PP bb w D pm_217 (ex_keyword_4 c N m x j) (Q2 (.inr x))) : PP bb w D pm_217 (42, [(0, .ref 189), (1, .int (i32 v1)), (2, .int (i32 v2)), (3, .int (i32 v3)), (4, .int (i32 (j 4))), (5, .int (i32 (j 5)))], [.int (i32 u0)], (mhp m c, N), 0, 0) (QS Q2 (rfl_keyword_42 v1 v2 v3 u0 m)) := by
  unfold rfl_keyword_42
  show PP bb w D pm_217 (42, [(0, .ref 189), (1, .int (i32 v1)), (2, .int (i32 v2)), (3, .int (i32 v3)), (4, .int (i32 (j 4))), (5, .int (i32 (j 5)))], [.int (i32 u0)], (mhp (mO m [] []) c, N), 0, 0) _
  refine P_sto 44 [(4, .int (i32 u0)), (0, .ref 189), (1, .int (i32 v1)), (2, .int (i32 v2)), (3, .int (i32 v3)), (5, .int (i32 (j 5)))] rfl (fun _ => rfl) ?_
  refine P_ld 45 (.int (i32 0)) rfl (fun _ => rfl) ?_
  refine P_sto 47 [(5, .int (i32 0)), (4, .int (i32 u0)), (0, .ref 189), (1, .int (i32 v1)), (2, .int (i32 v2)), (3, .int (i32 v3))] rfl (fun _ => rfl) ?_
  refine P_lv (b := [(0, .ref 189), (1, .int (i32 v1)), (2, .int (i32 v2)), (3, .int (i32 v3)), (4, .int (i32 u0)), (5, .int (i32 0))]) rfl rfl ⟨rfl, rfl, rfl, rfl, rfl, rfl, trivial⟩ ?_
  refine P_bnd ?_
  refine P_whl (fun bb Q2 H1 H2 s9 j9 hs9 => dh_keyword_47 w c N D v1 v2 v3 q1 q2 q3 m hm bb Q2 H1 H2 s9 j9 hs9) bb (fun e9 j q10 => ?_) (u0, 0) (jk []) ⟨r0, (l32 0 rfl)⟩
  have q11 := q10
  show PP bb w D pm_217 (95, [(0, .ref 189), (1, .int (i32 v1)), (2, .int (i32 v2)), (3, .int (i32 v3)), (4, .int (i32 e9)), (5, .int (i32 (j 5)))], [], (mhp (mO m [] []) c, N), 0, 0) (QS _ (rfl_keyword_95 v1 v2 v3 e9 m))
  exact dg_keyword_95 w c N D bb v1 v2 v3 e9 q1 q2 q3 q11 m hm (jk [(5, j 5)]) Q2 H1 H2
def rfl_keyword_29 (v1 : Int) (v2 : Int) (v3 : Int) (m : mR) : Option (Sum (Int × Int) (Sum (Int) (Unit))) :=
  if v3 = m.1 9 then
    rfl_keyword_42 v1 v2 v3 1 m
  else
    rfl_keyword_42 v1 v2 v3 0 m
theorem dg_keyword_29 (w : wX) (c : Nat → Option am_C) (N D : Nat) (bb : Nat) (v1 : Int) (v2 : Int) (v3 : Int) (q1 : R32 v1) (q2 : R32 v2) (q3 : R32 v3) (m : mR) (hm : Cn m) (j : Nat → Int) (Q2 : Sum (Int × Int) (Sum (Int) (Unit)) → ag_Re af_T → Prop) (H1 : ∀ s j, cs_keyword_4 s → PP bb w D pm_217 (hd_keyword_4 c N m s j) (Q2 (.inl s))) (H2 : ∀ x j, cx_keyword_4 x → PP bb w D pm_217 (ex_keyword_4 c N m x j) (Q2 (.inr x))) : PP bb w D pm_217 (29, [(0, .ref 189), (1, .int (i32 v1)), (2, .int (i32 v2)), (3, .int (i32 v3)), (4, .int (i32 (j 4))), (5, .int (i32 (j 5)))], [], (mhp m c, N), 0, 0) (QS Q2 (rfl_keyword_29 v1 v2 v3 m)) := by
  unfold rfl_keyword_29
  show PP bb w D pm_217 (29, [(0, .ref 189), (1, .int (i32 v1)), (2, .int (i32 v2)), (3, .int (i32 v3)), (4, .int (i32 (j 4))), (5, .int (i32 (j 5)))], [], (mhp (mO m [] []) c, N), 0, 0) _
  refine P_ld 30 (.int (i32 v3)) rfl (fun _ => rfl) ?_
  refine P_gf 34 (.int (i32 (m.1 9))) rfl rfl rfl rfl rfl rfl ?_
  refine P_icE 41 37 rfl rfl rfl q3 (Cn_i hm 9 rfl) rfl (fun h12 => ?_) (fun h12 => ?_)
  · skip
    refine P_ld 38 (.int (i32 1)) rfl (fun _ => rfl) ?_
    refine P_goto 42 rfl (fun _ => rfl) ?_
    exact dg_keyword_42 w c N D bb v1 v2 v3 1 q1 q2 q3 (l32 1 rfl) m hm (jk [(4, j 4), (5, j 5)]) Q2 H1 H2
  · skip
    refine P_ld 42 (.int (i32 0)) rfl (fun _ => rfl) ?_
    exact dg_keyword_42 w c N D bb v1 v2 v3 0 q1 q2 q3 (l32 0 rfl) m hm (jk [(4, j 4), (5, j 5)]) Q2 H1 H2
def rfb_keyword_12 (v1 : Int) (v2 : Int) (m : mR) (s : Int) : Option (Sum (Int) (Int)) :=
  if (m.2 0) (cut (v1 + s)) ≤ 0 then
    some (.inr s)
  else
    some (.inl (cut (s + 1)))
theorem dh_keyword_12 (w : wX) (c : Nat → Option am_C) (N D : Nat) (v1 : Int) (v2 : Int) (q1 : R32 v1) (q2 : R32 v2) (m : mR) (hm : Cn m) (bb : Nat) (Q2 : Sum (Int) (Int) → ag_Re af_T → Prop) (H1 : ∀ s j, cs_keyword_12 s → PP bb w D pm_217 (hd_keyword_12 c N v1 v2 m s j) (Q2 (.inl s))) (H2 : ∀ x j, cx_keyword_12 x → PP bb w D pm_217 (ex_keyword_12 c N v1 v2 m x j) (Q2 (.inr x))) (s : Int) (j : Nat → Int) (hs : cs_keyword_12 s) : PP (bb + 1) w D pm_217 (hd_keyword_12 c N v1 v2 m s j) (QS Q2 (rfb_keyword_12 v1 v2 m s)) := by
  have g3 := hs
  unfold rfb_keyword_12
  show PP (bb + 1) w D pm_217 (12, [(0, .ref 189), (1, .int (i32 v1)), (2, .int (i32 v2)), (3, .int (i32 s)), (4, .int (i32 (j 4))), (5, .int (i32 (j 5)))], [], (mhp (mO m [] []) c, N), 0, 0) _
  refine P1_ld 13 (.ref 189) rfl (fun _ => rfl) ?_
  refine P_gf1 16 (.ref 190) rfl rfl rfl rfl ?_
  refine P_ld 17 (.int (i32 v1)) rfl (fun _ => rfl) ?_
  refine P_ld 18 (.int (i32 s)) rfl (fun _ => rfl) ?_
  refine P_op 19 (cut (v1 + s)) _ rfl (fun _ => rfl) o_add ?_
  refine P_iald2 20 0 (m.2 0) rfl rfl rfl cut_r rfl ?_
  refine P_ifF 29 23 rfl rfl rfl (rE_i (Cn_a hm 0) rfl _) rfl (fun h14 => ?_) (fun h14 => ?_)
  · skip
    refine P_some ?_
    exact H2 s (jk [(4, j 4), (5, j 5)]) g3
  · skip
    refine P_inc 26 [(3, .int (i32 (cut (s + 1)))), (0, .ref 189), (1, .int (i32 v1)), (2, .int (i32 v2)), (4, .int (i32 (j 4))), (5, .int (i32 (j 5)))] rfl rfl (by decide) rfl rfl ?_
    refine P_goto 12 rfl (fun _ => rfl) ?_
    refine P_some ?_
    refine P_lv (b := [(0, .ref 189), (1, .int (i32 v1)), (2, .int (i32 v2)), (3, .int (i32 (cut (s + 1)))), (4, .int (i32 (j 4))), (5, .int (i32 (j 5)))]) rfl rfl ⟨rfl, rfl, rfl, rfl, rfl, rfl, trivial⟩ ?_
    exact H1 (cut (s + 1)) (jk [(4, j 4), (5, j 5)]) cut_r
def rfb_keyword_4 (m : mR) (s : Int × Int) : Option (Sum (Int × Int) (Sum (Int) (Unit))) :=
  if (31 : Int) ≤ s.2 then
    some (.inr (.inr ()))
  else
    bnd (whl (rfb_keyword_12 s.1 s.2 m) 0) (fun e17 : Int =>
      rfl_keyword_29 s.1 s.2 e17 m)
theorem dh_keyword_4 (w : wX) (c : Nat → Option am_C) (N D : Nat) (m : mR) (hm : Cn m) (bb : Nat) (Q2 : Sum (Int × Int) (Sum (Int) (Unit)) → ag_Re af_T → Prop) (H1 : ∀ s j, cs_keyword_4 s → PP bb w D pm_217 (hd_keyword_4 c N m s j) (Q2 (.inl s))) (H2 : ∀ x j, cx_keyword_4 x → PP bb w D pm_217 (ex_keyword_4 c N m x j) (Q2 (.inr x))) (s : Int × Int) (j : Nat → Int) (hs : cs_keyword_4 s) : PP (bb + 1) w D pm_217 (hd_keyword_4 c N m s j) (QS Q2 (rfb_keyword_4 m s)) := by
  obtain ⟨g1, g2⟩ := hs
  unfold rfb_keyword_4
  show PP (bb + 1) w D pm_217 (4, [(0, .ref 189), (1, .int (i32 s.1)), (2, .int (i32 s.2)), (3, .int (i32 (j 3))), (4, .int (i32 (j 4))), (5, .int (i32 (j 5)))], [], (mhp (mO m [] []) c, N), 0, 0) _
  refine P1_ld 5 (.int (i32 s.2)) rfl (fun _ => rfl) ?_
  refine P_ld 7 (.int (i32 31)) rfl (fun _ => rfl) ?_
  refine P_icF 118 10 rfl rfl rfl g2 (l32 31 rfl) rfl (fun h16 => ?_) (fun h16 => ?_)
  · skip
    refine P_some ?_
    exact H2 (.inr ()) (jk [(1, s.1), (2, s.2), (3, j 3), (4, j 4), (5, j 5)]) trivial
  · skip
    refine P_ld 11 (.int (i32 0)) rfl (fun _ => rfl) ?_
    refine P_sto 12 [(3, .int (i32 0)), (0, .ref 189), (1, .int (i32 s.1)), (2, .int (i32 s.2)), (4, .int (i32 (j 4))), (5, .int (i32 (j 5)))] rfl (fun _ => rfl) ?_
    refine P_lv (b := [(0, .ref 189), (1, .int (i32 s.1)), (2, .int (i32 s.2)), (3, .int (i32 0)), (4, .int (i32 (j 4))), (5, .int (i32 (j 5)))]) rfl rfl ⟨rfl, rfl, rfl, rfl, rfl, rfl, trivial⟩ ?_
    refine P_bnd ?_
    refine P_whl (fun bb Q2 H1 H2 s9 j9 hs9 => dh_keyword_12 w c N D s.1 s.2 g1 g2 m hm bb Q2 H1 H2 s9 j9 hs9) bb (fun e17 j q18 => ?_) 0 (jk [(4, j 4), (5, j 5)]) (l32 0 rfl)
    have q19 := q18
    show PP bb w D pm_217 (29, [(0, .ref 189), (1, .int (i32 s.1)), (2, .int (i32 s.2)), (3, .int (i32 e17)), (4, .int (i32 (j 4))), (5, .int (i32 (j 5)))], [], (mhp (mO m [] []) c, N), 0, 0) (QS _ (rfl_keyword_29 s.1 s.2 e17 m))
    exact dg_keyword_29 w c N D bb s.1 s.2 e17 g1 g2 q19 m hm (jk [(4, j 4), (5, j 5)]) Q2 H1 H2
def rf_keyword (m : mR) : Option Int :=
  bnd (whl (rfb_keyword_4 m) (0, 0)) (sel
    (fun e20 : Int =>
      rfl_keyword_100 e20 m)
    (fun e23 : Unit =>
      some (-1)))
theorem D_keyword (w : wX) (m : mR) (c : Nat → Option am_C) (N D : Nat) (hm : Cn m) : PC w D 217 [.ref 189] (mhp m c, N) (QS (FP1 (mhp m c, N)) (rf_keyword m)) := by
  refine Pc_of (fun D bb => ?_) D
  unfold rf_keyword
  show PP bb w D pm_217 (0, [(0, .ref 189)], [], (mhp (mO m [] []) c, N), 0, 0) _
  refine P_ld 1 (.int (i32 0)) rfl (fun _ => rfl) ?_
  refine P_sto 2 [(1, .int (i32 0)), (0, .ref 189)] rfl (fun _ => rfl) ?_
  refine P_ld 3 (.int (i32 0)) rfl (fun _ => rfl) ?_
  refine P_sto 4 [(2, .int (i32 0)), (1, .int (i32 0)), (0, .ref 189)] rfl (fun _ => rfl) ?_
  refine P_lv (b := [(0, .ref 189), (1, .int (i32 0)), (2, .int (i32 0)), (3, .int (i32 0)), (4, .int (i32 0)), (5, .int (i32 0))]) rfl rfl ⟨rfl, rfl, rfl, trivial⟩ ?_
  refine P_bnd ?_
  refine P_whl (fun bb Q2 H1 H2 s9 j9 hs9 => dh_keyword_4 w c N D m hm bb Q2 H1 H2 s9 j9 hs9) bb (fun x0 j hx0 => ?_) (0, 0) (jk []) ⟨(l32 0 rfl), (l32 0 rfl)⟩
  cases x0 with
  | inl e20 =>
    have q21 := hx0
    have q22 := q21
    show PP bb w D pm_217 (100, [(0, .ref 189), (1, .int (i32 (j 1))), (2, .int (i32 e20)), (3, .int (i32 (j 3))), (4, .int (i32 (j 4))), (5, .int (i32 (j 5)))], [], (mhp (mO m [] []) c, N), 0, 0) (QS _ (rfl_keyword_100 e20 m))
    exact dg_keyword_100 w c N D bb e20 q22 m hm (jk [(1, j 1), (3, j 3), (4, j 4), (5, j 5)])
  | inr e23 =>
    have q24 := hx0
    show PP bb w D pm_217 (118, [(0, .ref 189), (1, .int (i32 (j 1))), (2, .int (i32 (j 2))), (3, .int (i32 (j 3))), (4, .int (i32 (j 4))), (5, .int (i32 (j 5)))], [], (mhp (mO m [] []) c, N), 0, 0) (QS _ (some (-1)))
    refine P_ld 119 (.int (i32 (-1))) rfl (fun _ => rfl) ?_
    exact P_rp1 rfl (l32 (-1) rfl)
def rfl_hex_37 (u0 : Int) : Option Int :=
  some u0
theorem dg_hex_37 (w : wX) (t : af_T) (D : Nat) (bb : Nat) (u0 : Int) (r0 : R32 u0) (j : Nat → Int) : PP bb w D pm_219 (37, [(0, .int (i32 (j 0)))], [.int (i32 u0)], t, 0, 0) (QS (FP1 t) (rfl_hex_37 u0)) := by
  unfold rfl_hex_37
  exact P_rp1 rfl r0
def rf_hex (v0 : Int) : Option Int :=
  bnd (rf_isDigit v0) fun y1 =>
  if y1 = 0 then
    if v0 < 97 then
      rfl_hex_37 (-1)
    else
      if (102 : Int) < v0 then
        rfl_hex_37 (-1)
      else
        rfl_hex_37 (cut ((cut (v0 - 97)) + 10))
  else
    rfl_hex_37 (cut (v0 - 48))
theorem D_hex (w : wX) (t : af_T) (D : Nat) (v0 : Int) (q0 : R32 v0) : PC w D 219 [.int (i32 v0)] t (QS (FP1 t) (rf_hex v0)) := by
  refine Pc_of (fun D bb => ?_) D
  unfold rf_hex
  show PP bb w D pm_219 (0, [(0, .int (i32 v0))], [], t, 0, 0) _
  refine P_ld 1 (.int (i32 v0)) rfl (fun _ => rfl) ?_
  refine P_cp1 4 216 [.int (i32 v0)] [] rfl (fun _ => rfl) rfl (D_isDigit w _ D v0 q0) (fun y1 h2 => ?_)
  refine P_ifF 14 7 rfl rfl rfl h2 rfl (fun h3 => ?_) (fun h3 => ?_)
  · skip
    refine P_ld 15 (.int (i32 v0)) rfl (fun _ => rfl) ?_
    refine P_ld 17 (.int (i32 97)) rfl (fun _ => rfl) ?_
    refine P_icF 36 20 rfl rfl rfl q0 (l32 97 rfl) rfl (fun h4 => ?_) (fun h4 => ?_)
    · skip
      refine P_ld 37 (.int (i32 (-1))) rfl (fun _ => rfl) ?_
      exact dg_hex_37 w t D bb (-1) (l32 (-1) rfl) (jk [(0, v0)])
    · skip
      refine P_ld 21 (.int (i32 v0)) rfl (fun _ => rfl) ?_
      refine P_ld 23 (.int (i32 102)) rfl (fun _ => rfl) ?_
      refine P_icF 36 26 rfl rfl rfl q0 (l32 102 rfl) rfl (fun h5 => ?_) (fun h5 => ?_)
      · skip
        refine P_ld 37 (.int (i32 (-1))) rfl (fun _ => rfl) ?_
        exact dg_hex_37 w t D bb (-1) (l32 (-1) rfl) (jk [(0, v0)])
      · skip
        refine P_ld 27 (.int (i32 v0)) rfl (fun _ => rfl) ?_
        refine P_ld 29 (.int (i32 97)) rfl (fun _ => rfl) ?_
        refine P_op 30 (cut (v0 - 97)) _ rfl (fun _ => rfl) o_sub ?_
        refine P_ld 32 (.int (i32 10)) rfl (fun _ => rfl) ?_
        refine P_op 33 (cut ((cut (v0 - 97)) + 10)) _ rfl (fun _ => rfl) o_add ?_
        refine P_goto 37 rfl (fun _ => rfl) ?_
        exact dg_hex_37 w t D bb (cut ((cut (v0 - 97)) + 10)) cut_r (jk [(0, v0)])
  · skip
    refine P_ld 8 (.int (i32 v0)) rfl (fun _ => rfl) ?_
    refine P_ld 10 (.int (i32 48)) rfl (fun _ => rfl) ?_
    refine P_op 11 (cut (v0 - 48)) _ rfl (fun _ => rfl) o_sub ?_
    refine P_goto 37 rfl (fun _ => rfl) ?_
    exact dg_hex_37 w t D bb (cut (v0 - 48)) cut_r (jk [(0, v0)])
def cs_lookNumber_52 (s : mR) : Prop := Cn s
def cx_lookNumber_52 : (mR) → Prop := (fun (e : mR) => Cn e)
def hd_lookNumber_52 (c : Nat → Option am_C) (N : Nat) (v1 : Int) (s : mR) (j : Nat → Int) : ag_St af_T := (52, [(0, .ref 189), (1, .int (i32 v1))], [], (mhp s c, N), 0, 0)
def ex_lookNumber_52 (c : Nat → Option am_C) (N : Nat) (v1 : Int) : (mR) → (Nat → Int) → ag_St af_T := (fun (e : mR) (j : Nat → Int) => ((172, [(0, .ref 189), (1, .int (i32 v1))], [], (mhp e c, N), 0, 0) : ag_St af_T))
def rfl_lookNumber_199 (u1 : Int) (m : mR) : Option (Int × mR) :=
  some (0, (mO m [(7, u1)] []))
theorem dg_lookNumber_199 (w : wX) (c : Nat → Option am_C) (N D : Nat) (bb : Nat) (u1 : Int) (r1 : R32 u1) (m : mR) (hm : Cn m) (j : Nat → Int) : PP bb w D pm_218 (199, [(0, .ref 189), (1, .int (i32 (j 1)))], [.int (i32 u1), .ref 189], (mhp m c, N), 0, 0) (QS (FR0 c N) (rfl_lookNumber_199 u1 m)) := by
  unfold rfl_lookNumber_199
  show PP bb w D pm_218 (199, [(0, .ref 189), (1, .int (i32 (j 1)))], [.int (i32 u1), .ref 189], (mhp (mO m [] []) c, N), 0, 0) _
  refine P_pf (l' := [(7, u1)]) 202 u1 rfl rfl rfl rfl rfl rfl ?_
  exact P_re0 rfl rfl (Cn_mO hm ⟨(rV_i rfl r1), trivial⟩ trivial)
def rfl_lookNumber_198 (m : mR) : Option (Int × mR) :=
  rfl_lookNumber_199 2 m
theorem dg_lookNumber_198 (w : wX) (c : Nat → Option am_C) (N D : Nat) (bb : Nat) (m : mR) (hm : Cn m) (j : Nat → Int) : PP bb w D pm_218 (198, [(0, .ref 189), (1, .int (i32 (j 1)))], [.ref 189], (mhp m c, N), 0, 0) (QS (FR0 c N) (rfl_lookNumber_198 m)) := by
  unfold rfl_lookNumber_198
  show PP bb w D pm_218 (198, [(0, .ref 189), (1, .int (i32 (j 1)))], [.ref 189], (mhp (mO m [] []) c, N), 0, 0) _
  refine P_ld 199 (.int (i32 2)) rfl (fun _ => rfl) ?_
  exact dg_lookNumber_199 w c N D bb 2 (l32 2 rfl) m hm (jk [(1, j 1)])
def rfl_lookNumber_194 (m : mR) : Option (Int × mR) :=
  rfl_lookNumber_199 3 m
theorem dg_lookNumber_194 (w : wX) (c : Nat → Option am_C) (N D : Nat) (bb : Nat) (m : mR) (hm : Cn m) (j : Nat → Int) : PP bb w D pm_218 (194, [(0, .ref 189), (1, .int (i32 (j 1)))], [.ref 189], (mhp m c, N), 0, 0) (QS (FR0 c N) (rfl_lookNumber_194 m)) := by
  unfold rfl_lookNumber_194
  show PP bb w D pm_218 (194, [(0, .ref 189), (1, .int (i32 (j 1)))], [.ref 189], (mhp (mO m [] []) c, N), 0, 0) _
  refine P_ld 195 (.int (i32 3)) rfl (fun _ => rfl) ?_
  refine P_goto 199 rfl (fun _ => rfl) ?_
  exact dg_lookNumber_199 w c N D bb 3 (l32 3 rfl) m hm (jk [(1, j 1)])
def rfl_lookNumber_172 (v1 : Int) (m : mR) : Option (Int × mR) :=
  if (18 : Int) < m.1 9 then
    rfl_lookNumber_194 m
  else
    if v1 = 0 then
      rfl_lookNumber_198 m
    else
      if m.1 9 = 2 then
        rfl_lookNumber_194 m
      else
        rfl_lookNumber_198 m
theorem dg_lookNumber_172 (w : wX) (c : Nat → Option am_C) (N D : Nat) (bb : Nat) (v1 : Int) (q1 : R32 v1) (m : mR) (hm : Cn m) (j : Nat → Int) : PP bb w D pm_218 (172, [(0, .ref 189), (1, .int (i32 v1))], [], (mhp m c, N), 0, 0) (QS (FR0 c N) (rfl_lookNumber_172 v1 m)) := by
  unfold rfl_lookNumber_172
  show PP bb w D pm_218 (172, [(0, .ref 189), (1, .int (i32 v1))], [], (mhp (mO m [] []) c, N), 0, 0) _
  refine P_ld 173 (.ref 189) rfl (fun _ => rfl) ?_
  refine P_gf 177 (.int (i32 (m.1 9))) rfl rfl rfl rfl rfl rfl ?_
  refine P_ld 179 (.int (i32 18)) rfl (fun _ => rfl) ?_
  refine P_icF 194 182 rfl rfl rfl (Cn_i hm 9 rfl) (l32 18 rfl) rfl (fun h2 => ?_) (fun h2 => ?_)
  · skip
    exact dg_lookNumber_194 w c N D bb m hm (jk [(1, v1)])
  · skip
    refine P_ld 183 (.int (i32 v1)) rfl (fun _ => rfl) ?_
    refine P_ifF 198 186 rfl rfl rfl q1 rfl (fun h3 => ?_) (fun h3 => ?_)
    · skip
      exact dg_lookNumber_198 w c N D bb m hm (jk [(1, v1)])
    · skip
      refine P_gf 190 (.int (i32 (m.1 9))) rfl rfl rfl rfl rfl rfl ?_
      refine P_ld 191 (.int (i32 2)) rfl (fun _ => rfl) ?_
      refine P_icE 198 194 rfl rfl rfl (Cn_i hm 9 rfl) (l32 2 rfl) rfl (fun h4 => ?_) (fun h4 => ?_)
      · skip
        exact dg_lookNumber_194 w c N D bb m hm (jk [(1, v1)])
      · skip
        exact dg_lookNumber_198 w c N D bb m hm (jk [(1, v1)])
def rfl_lookNumber_156 (v1 : Int) (u1 : Int) (m : mR) : Option (Sum (mR) (mR)) :=
  some (.inl (mO m [(9, cut ((m.1 9) + 1)), (12, u1)] []))
theorem dg_lookNumber_156 (w : wX) (c : Nat → Option am_C) (N D : Nat) (bb : Nat) (v1 : Int) (u1 : Int) (q1 : R32 v1) (r1 : R64 u1) (m : mR) (hm : Cn m) (j : Nat → Int) (Q2 : Sum (mR) (mR) → ag_Re af_T → Prop) (H1 : ∀ s j, cs_lookNumber_52 s → PP bb w D pm_218 (hd_lookNumber_52 c N v1 s j) (Q2 (.inl s))) (H2 : ∀ x j, cx_lookNumber_52 x → PP bb w D pm_218 (ex_lookNumber_52 c N v1 x j) (Q2 (.inr x))) : PP bb w D pm_218 (156, [(0, .ref 189), (1, .int (i32 v1))], [.long (i64 u1), .ref 189], (mhp m c, N), 0, 0) (QS Q2 (rfl_lookNumber_156 v1 u1 m)) := by
  unfold rfl_lookNumber_156
  show PP bb w D pm_218 (156, [(0, .ref 189), (1, .int (i32 v1))], [.long (i64 u1), .ref 189], (mhp (mO m [] []) c, N), 0, 0) _
  refine P_pf (l' := [(12, u1)]) 159 u1 rfl rfl rfl rfl rfl rfl ?_
  refine P_ld 160 (.ref 189) rfl (fun _ => rfl) ?_
  refine P_ld 161 (.ref 189) rfl (fun _ => rfl) ?_
  refine P_gf1 164 (.int (i32 (m.1 9))) rfl rfl rfl rfl ?_
  refine P_ld 165 (.int (i32 1)) rfl (fun _ => rfl) ?_
  refine P_op 166 (cut ((m.1 9) + 1)) _ rfl (fun _ => rfl) o_add ?_
  refine P_pf (l' := [(9, cut ((m.1 9) + 1)), (12, u1)]) 169 (cut ((m.1 9) + 1)) rfl rfl rfl rfl rfl rfl ?_
  refine P_goto 52 rfl (fun _ => rfl) ?_
  refine P_some ?_
  exact H1 (mO m [(9, cut ((m.1 9) + 1)), (12, u1)] []) (jk []) (Cn_mO hm ⟨(rV_i rfl cut_r), (rV_l rfl r1), trivial⟩ trivial)
def rfl_lookNumber_97 (v1 : Int) (m : mR) : Option (Sum (mR) (mR)) :=
  if v1 = 0 then
    bnd (rf_byteAt1 (cut ((m.1 8) + (m.1 9))) m) fun y6 =>
    rfl_lookNumber_156 v1 (cutl ((cutl ((cutl (10 * (m.1 12))) + y6)) - 48)) m
  else
    bnd (rf_byteAt1 (cut ((m.1 8) + (m.1 9))) m) fun y8 =>
    bnd (rf_hex y8) fun y10 =>
    rfl_lookNumber_156 v1 (or64 (shl64 (m.1 12) 4) y10) m
theorem dg_lookNumber_97 (w : wX) (c : Nat → Option am_C) (N D : Nat) (bb : Nat) (v1 : Int) (q1 : R32 v1) (m : mR) (hm : Cn m) (j : Nat → Int) (Q2 : Sum (mR) (mR) → ag_Re af_T → Prop) (H1 : ∀ s j, cs_lookNumber_52 s → PP bb w D pm_218 (hd_lookNumber_52 c N v1 s j) (Q2 (.inl s))) (H2 : ∀ x j, cx_lookNumber_52 x → PP bb w D pm_218 (ex_lookNumber_52 c N v1 x j) (Q2 (.inr x))) : PP bb w D pm_218 (97, [(0, .ref 189), (1, .int (i32 v1))], [], (mhp m c, N), 0, 0) (QS Q2 (rfl_lookNumber_97 v1 m)) := by
  unfold rfl_lookNumber_97
  show PP bb w D pm_218 (97, [(0, .ref 189), (1, .int (i32 v1))], [], (mhp (mO m [] []) c, N), 0, 0) _
  refine P_ld 98 (.ref 189) rfl (fun _ => rfl) ?_
  refine P_ld 99 (.int (i32 v1)) rfl (fun _ => rfl) ?_
  refine P_ifF 129 102 rfl rfl rfl q1 rfl (fun h5 => ?_) (fun h5 => ?_)
  · skip
    refine P_ld 132 (.long (i64 10)) rfl (fun _ => rfl) ?_
    refine P_gf 136 (.long (i64 (m.1 12))) rfl rfl rfl rfl rfl rfl ?_
    refine P_opl 137 (cutl (10 * (m.1 12))) _ rfl (fun _ => rfl) p_mul ?_
    refine P_ld 138 (.ref 189) rfl (fun _ => rfl) ?_
    refine P_gf 142 (.int (i32 (m.1 8))) rfl rfl rfl rfl rfl rfl ?_
    refine P_gf 146 (.int (i32 (m.1 9))) rfl rfl rfl rfl rfl rfl ?_
    refine P_op 147 (cut ((m.1 8) + (m.1 9))) _ rfl (fun _ => rfl) o_add ?_
    refine P_cp1 150 213 [.ref 189, .int (i32 (cut ((m.1 8) + (m.1 9))))] [.long (i64 (cutl (10 * (m.1 12)))), .ref 189] rfl (fun _ => rfl) rfl (D_byteAt1 w m c N D hm (cut ((m.1 8) + (m.1 9))) cut_r) (fun y6 h7 => ?_)
    refine P_opl 151 y6 _ rfl (fun _ => rfl) (o_i2l h7) ?_
    refine P_opl 152 (cutl ((cutl (10 * (m.1 12))) + y6)) _ rfl (fun _ => rfl) p_add ?_
    refine P_ld 155 (.long (i64 48)) rfl (fun _ => rfl) ?_
    refine P_opl 156 (cutl ((cutl ((cutl (10 * (m.1 12))) + y6)) - 48)) _ rfl (fun _ => rfl) p_sub ?_
    exact dg_lookNumber_156 w c N D bb v1 (cutl ((cutl ((cutl (10 * (m.1 12))) + y6)) - 48)) q1 cutl_r m hm (jk []) Q2 H1 H2
  · skip
    refine P_gf 106 (.long (i64 (m.1 12))) rfl rfl rfl rfl rfl rfl ?_
    refine P_ld 107 (.int (i32 4)) rfl (fun _ => rfl) ?_
    refine P_opl 108 (shl64 (m.1 12) 4) _ rfl (fun _ => rfl) (Int64.ofInt_toInt _).symm ?_
    refine P_ld 109 (.ref 189) rfl (fun _ => rfl) ?_
    refine P_gf 113 (.int (i32 (m.1 8))) rfl rfl rfl rfl rfl rfl ?_
    refine P_gf 117 (.int (i32 (m.1 9))) rfl rfl rfl rfl rfl rfl ?_
    refine P_op 118 (cut ((m.1 8) + (m.1 9))) _ rfl (fun _ => rfl) o_add ?_
    refine P_cp1 121 213 [.ref 189, .int (i32 (cut ((m.1 8) + (m.1 9))))] [.long (i64 (shl64 (m.1 12) 4)), .ref 189] rfl (fun _ => rfl) rfl (D_byteAt1 w m c N D hm (cut ((m.1 8) + (m.1 9))) cut_r) (fun y8 h9 => ?_)
    refine P_cp1 124 219 [.int (i32 y8)] [.long (i64 (shl64 (m.1 12) 4)), .ref 189] rfl (fun _ => rfl) rfl (D_hex w _ D y8 h9) (fun y10 h11 => ?_)
    refine P_opl 125 y10 _ rfl (fun _ => rfl) (o_i2l h11) ?_
    refine P_opl 126 (or64 (shl64 (m.1 12) 4) y10) _ rfl (fun _ => rfl) (Int64.ofInt_toInt _).symm ?_
    refine P_goto 156 rfl (fun _ => rfl) ?_
    exact dg_lookNumber_156 w c N D bb v1 (or64 (shl64 (m.1 12) 4) y10) q1 t64_r m hm (jk []) Q2 H1 H2
def rfb_lookNumber_52 (v1 : Int) (s : mR) : Option (Sum (mR) (mR)) :=
  if v1 = 0 then
    bnd (rf_byteAt1 (cut ((s.1 8) + (s.1 9))) s) fun y14 =>
    bnd (rf_isDigit y14) fun y16 =>
    if y16 = 0 then
      some (.inr s)
    else
      rfl_lookNumber_97 v1 s
  else
    bnd (rf_byteAt1 (cut ((s.1 8) + (s.1 9))) s) fun y19 =>
    bnd (rf_hex y19) fun y21 =>
    if y21 < 0 then
      some (.inr s)
    else
      rfl_lookNumber_97 v1 s
theorem dh_lookNumber_52 (w : wX) (c : Nat → Option am_C) (N D : Nat) (v1 : Int) (q1 : R32 v1) (bb : Nat) (Q2 : Sum (mR) (mR) → ag_Re af_T → Prop) (H1 : ∀ s j, cs_lookNumber_52 s → PP bb w D pm_218 (hd_lookNumber_52 c N v1 s j) (Q2 (.inl s))) (H2 : ∀ x j, cx_lookNumber_52 x → PP bb w D pm_218 (ex_lookNumber_52 c N v1 x j) (Q2 (.inr x))) (s : mR) (j : Nat → Int) (hs : cs_lookNumber_52 s) : PP (bb + 1) w D pm_218 (hd_lookNumber_52 c N v1 s j) (QS Q2 (rfb_lookNumber_52 v1 s)) := by
  have gm := hs
  unfold rfb_lookNumber_52
  show PP (bb + 1) w D pm_218 (52, [(0, .ref 189), (1, .int (i32 v1))], [], (mhp (mO s [] []) c, N), 0, 0) _
  refine P1_ld 53 (.int (i32 v1)) rfl (fun _ => rfl) ?_
  refine P_ifF 78 56 rfl rfl rfl q1 rfl (fun h13 => ?_) (fun h13 => ?_)
  · skip
    refine P_ld 79 (.ref 189) rfl (fun _ => rfl) ?_
    refine P_gf 83 (.int (i32 (s.1 8))) rfl rfl rfl rfl rfl rfl ?_
    refine P_gf 87 (.int (i32 (s.1 9))) rfl rfl rfl rfl rfl rfl ?_
    refine P_op 88 (cut ((s.1 8) + (s.1 9))) _ rfl (fun _ => rfl) o_add ?_
    refine P_cp1 91 213 [.ref 189, .int (i32 (cut ((s.1 8) + (s.1 9))))] [] rfl (fun _ => rfl) rfl (D_byteAt1 w s c N D gm (cut ((s.1 8) + (s.1 9))) cut_r) (fun y14 h15 => ?_)
    refine P_cp1 94 216 [.int (i32 y14)] [] rfl (fun _ => rfl) rfl (D_isDigit w _ D y14 h15) (fun y16 h17 => ?_)
    refine P_ifF 172 97 rfl rfl rfl h17 rfl (fun h18 => ?_) (fun h18 => ?_)
    · skip
      refine P_some ?_
      exact H2 s (jk []) gm
    · skip
      exact dg_lookNumber_97 w c N D bb v1 q1 s gm (jk []) Q2 H1 H2
  · skip
    refine P_ld 57 (.ref 189) rfl (fun _ => rfl) ?_
    refine P_gf 61 (.int (i32 (s.1 8))) rfl rfl rfl rfl rfl rfl ?_
    refine P_gf 65 (.int (i32 (s.1 9))) rfl rfl rfl rfl rfl rfl ?_
    refine P_op 66 (cut ((s.1 8) + (s.1 9))) _ rfl (fun _ => rfl) o_add ?_
    refine P_cp1 69 213 [.ref 189, .int (i32 (cut ((s.1 8) + (s.1 9))))] [] rfl (fun _ => rfl) rfl (D_byteAt1 w s c N D gm (cut ((s.1 8) + (s.1 9))) cut_r) (fun y19 h20 => ?_)
    refine P_cp1 72 219 [.int (i32 y19)] [] rfl (fun _ => rfl) rfl (D_hex w _ D y19 h20) (fun y21 h22 => ?_)
    refine P_ifF 172 75 rfl rfl rfl h22 rfl (fun h23 => ?_) (fun h23 => ?_)
    · skip
      refine P_some ?_
      exact H2 s (jk []) gm
    · skip
      refine P_goto 97 rfl (fun _ => rfl) ?_
      exact dg_lookNumber_97 w c N D bb v1 q1 s gm (jk []) Q2 H1 H2
def rfl_lookNumber_49 (v1 : Int) (u1 : Int) (m : mR) : Option (Int × mR) :=
  bnd (whl (rfb_lookNumber_52 v1) (mO m [(9, u1)] [])) (fun e24 : mR =>
    rfl_lookNumber_172 v1 e24)
theorem dg_lookNumber_49 (w : wX) (c : Nat → Option am_C) (N D : Nat) (bb : Nat) (v1 : Int) (u1 : Int) (q1 : R32 v1) (r1 : R32 u1) (m : mR) (hm : Cn m) (j : Nat → Int) : PP bb w D pm_218 (49, [(0, .ref 189), (1, .int (i32 v1))], [.int (i32 u1), .ref 189], (mhp m c, N), 0, 0) (QS (FR0 c N) (rfl_lookNumber_49 v1 u1 m)) := by
  unfold rfl_lookNumber_49
  show PP bb w D pm_218 (49, [(0, .ref 189), (1, .int (i32 v1))], [.int (i32 u1), .ref 189], (mhp (mO m [] []) c, N), 0, 0) _
  refine P_pf (l' := [(9, u1)]) 52 u1 rfl rfl rfl rfl rfl rfl ?_
  refine P_bnd ?_
  refine P_whl (fun bb Q2 H1 H2 s9 j9 hs9 => dh_lookNumber_52 w c N D v1 q1 bb Q2 H1 H2 s9 j9 hs9) bb (fun e24 j q25 => ?_) (mO m [(9, u1)] []) (jk []) (Cn_mO hm ⟨(rV_i rfl r1), trivial⟩ trivial)
  have q26 := q25
  show PP bb w D pm_218 (172, [(0, .ref 189), (1, .int (i32 v1))], [], (mhp (mO e24 [] []) c, N), 0, 0) (QS _ (rfl_lookNumber_172 v1 e24))
  exact dg_lookNumber_172 w c N D bb v1 q1 e24 q26 (jk [])
def rfl_lookNumber_38 (u0 : Int) (m : mR) : Option (Int × mR) :=
  if u0 = 0 then
    rfl_lookNumber_49 u0 0 m
  else
    rfl_lookNumber_49 u0 2 m
theorem dg_lookNumber_38 (w : wX) (c : Nat → Option am_C) (N D : Nat) (bb : Nat) (u0 : Int) (r0 : R32 u0) (m : mR) (hm : Cn m) (j : Nat → Int) : PP bb w D pm_218 (38, [(0, .ref 189)], [.int (i32 u0)], (mhp m c, N), 0, 0) (QS (FR0 c N) (rfl_lookNumber_38 u0 m)) := by
  unfold rfl_lookNumber_38
  show PP bb w D pm_218 (38, [(0, .ref 189)], [.int (i32 u0)], (mhp (mO m [] []) c, N), 0, 0) _
  refine P_sto 39 [(1, .int (i32 u0)), (0, .ref 189)] rfl (fun _ => rfl) ?_
  refine P_ld 40 (.ref 189) rfl (fun _ => rfl) ?_
  refine P_ld 41 (.int (i32 u0)) rfl (fun _ => rfl) ?_
  refine P_ifF 48 44 rfl rfl rfl r0 rfl (fun h27 => ?_) (fun h27 => ?_)
  · skip
    refine P_ld 49 (.int (i32 0)) rfl (fun _ => rfl) ?_
    refine P_lv (b := [(0, .ref 189), (1, .int (i32 u0))]) rfl rfl ⟨rfl, rfl, trivial⟩ ?_
    exact dg_lookNumber_49 w c N D bb u0 0 r0 (l32 0 rfl) m hm (jk [])
  · skip
    refine P_ld 45 (.int (i32 2)) rfl (fun _ => rfl) ?_
    refine P_goto 49 rfl (fun _ => rfl) ?_
    refine P_lv (b := [(0, .ref 189), (1, .int (i32 u0))]) rfl rfl ⟨rfl, rfl, trivial⟩ ?_
    exact dg_lookNumber_49 w c N D bb u0 2 r0 (l32 2 rfl) m hm (jk [])
def rfl_lookNumber_37 (m : mR) : Option (Int × mR) :=
  rfl_lookNumber_38 0 m
theorem dg_lookNumber_37 (w : wX) (c : Nat → Option am_C) (N D : Nat) (bb : Nat) (m : mR) (hm : Cn m) (j : Nat → Int) : PP bb w D pm_218 (37, [(0, .ref 189)], [], (mhp m c, N), 0, 0) (QS (FR0 c N) (rfl_lookNumber_37 m)) := by
  unfold rfl_lookNumber_37
  show PP bb w D pm_218 (37, [(0, .ref 189)], [], (mhp (mO m [] []) c, N), 0, 0) _
  refine P_ld 38 (.int (i32 0)) rfl (fun _ => rfl) ?_
  exact dg_lookNumber_38 w c N D bb 0 (l32 0 rfl) m hm (jk [])
def rf_lookNumber (m : mR) : Option (Int × mR) :=
  bnd (rf_byteAt1 (m.1 8) (mO m [(12, 0)] [])) fun y28 =>
  if y28 = 48 then
    bnd (rf_byteAt1 (cut ((m.1 8) + 1)) (mO m [(12, 0)] [])) fun y31 =>
    if y31 = 120 then
      rfl_lookNumber_38 1 (mO m [(12, 0)] [])
    else
      rfl_lookNumber_37 (mO m [(12, 0)] [])
  else
    rfl_lookNumber_37 (mO m [(12, 0)] [])
theorem D_lookNumber (w : wX) (m : mR) (c : Nat → Option am_C) (N D : Nat) (hm : Cn m) : PC w D 218 [.ref 189] (mhp m c, N) (QS (FR0 c N) (rf_lookNumber m)) := by
  refine Pc_of (fun D bb => ?_) D
  unfold rf_lookNumber
  show PP bb w D pm_218 (0, [(0, .ref 189)], [], (mhp (mO m [] []) c, N), 0, 0) _
  refine P_ld 1 (.ref 189) rfl (fun _ => rfl) ?_
  refine P_ld 2 (.long (i64 0)) rfl (fun _ => rfl) ?_
  refine P_pf (l' := [(12, 0)]) 5 0 rfl rfl rfl rfl rfl rfl ?_
  refine P_ld 6 (.ref 189) rfl (fun _ => rfl) ?_
  refine P_gf 10 (.int (i32 (m.1 8))) rfl rfl rfl rfl rfl rfl ?_
  refine P_cp1 13 213 [.ref 189, .int (i32 (m.1 8))] [] rfl (fun _ => rfl) rfl (D_byteAt1 w (mO m [(12, 0)] []) c N D (Cn_mO hm ⟨(rV_l rfl (l64 0 rfl)), trivial⟩ trivial) (m.1 8) (Cn_i hm 8 rfl)) (fun y28 h29 => ?_)
  refine P_ld 15 (.int (i32 48)) rfl (fun _ => rfl) ?_
  refine P_icE 37 18 rfl rfl rfl h29 (l32 48 rfl) rfl (fun h30 => ?_) (fun h30 => ?_)
  · skip
    refine P_ld 19 (.ref 189) rfl (fun _ => rfl) ?_
    refine P_gf 23 (.int (i32 (m.1 8))) rfl rfl rfl rfl rfl rfl ?_
    refine P_ld 24 (.int (i32 1)) rfl (fun _ => rfl) ?_
    refine P_op 25 (cut ((m.1 8) + 1)) _ rfl (fun _ => rfl) o_add ?_
    refine P_cp1 28 213 [.ref 189, .int (i32 (cut ((m.1 8) + 1)))] [] rfl (fun _ => rfl) rfl (D_byteAt1 w (mO m [(12, 0)] []) c N D (Cn_mO hm ⟨(rV_l rfl (l64 0 rfl)), trivial⟩ trivial) (cut ((m.1 8) + 1)) cut_r) (fun y31 h32 => ?_)
    refine P_ld 30 (.int (i32 120)) rfl (fun _ => rfl) ?_
    refine P_icE 37 33 rfl rfl rfl h32 (l32 120 rfl) rfl (fun h33 => ?_) (fun h33 => ?_)
    · skip
      refine P_ld 34 (.int (i32 1)) rfl (fun _ => rfl) ?_
      refine P_goto 38 rfl (fun _ => rfl) ?_
      exact dg_lookNumber_38 w c N D bb 1 (l32 1 rfl) (mO m [(12, 0)] []) (Cn_mO hm ⟨(rV_l rfl (l64 0 rfl)), trivial⟩ trivial) (jk [])
    · skip
      exact dg_lookNumber_37 w c N D bb (mO m [(12, 0)] []) (Cn_mO hm ⟨(rV_l rfl (l64 0 rfl)), trivial⟩ trivial) (jk [])
  · skip
    exact dg_lookNumber_37 w c N D bb (mO m [(12, 0)] []) (Cn_mO hm ⟨(rV_l rfl (l64 0 rfl)), trivial⟩ trivial) (jk [])
def rfl_twice_113 (u0 : Int) : Option Int :=
  some u0
theorem dg_twice_113 (w : wX) (t : af_T) (D : Nat) (bb : Nat) (u0 : Int) (r0 : R32 u0) (j : Nat → Int) : PP bb w D pm_220 (113, [(0, .int (i32 (j 0))), (1, .int (i32 (j 1)))], [.int (i32 u0)], t, 0, 0) (QS (FP1 t) (rfl_twice_113 u0)) := by
  unfold rfl_twice_113
  exact P_rp1 rfl r0
def rfl_twice_49 (u0 : Int) : Option Int :=
  some u0
theorem dg_twice_49 (w : wX) (t : af_T) (D : Nat) (bb : Nat) (u0 : Int) (r0 : R32 u0) (j : Nat → Int) : PP bb w D pm_220 (49, [(0, .int (i32 (j 0))), (1, .int (i32 (j 1)))], [.int (i32 u0)], t, 0, 0) (QS (FP1 t) (rfl_twice_49 u0)) := by
  unfold rfl_twice_49
  exact P_rp1 rfl r0
def rf_twice (v0 : Int) (v1 : Int) : Option Int :=
  if v1 = 61 then
    if v0 = 61 then
      rfl_twice_49 4
    else
      if v0 = 33 then
        rfl_twice_49 5
      else
        if v0 = 60 then
          rfl_twice_49 6
        else
          if v0 = 62 then
            rfl_twice_49 7
          else
            rfl_twice_49 (-1)
  else
    if v0 = v1 then
      if v0 = 43 then
        rfl_twice_113 8
      else
        if v0 = 38 then
          rfl_twice_113 9
        else
          if v0 = 124 then
            rfl_twice_113 10
          else
            if v0 = 60 then
              rfl_twice_113 11
            else
              if v0 = 62 then
                rfl_twice_113 12
              else
                rfl_twice_113 (-1)
    else
      some (-1)
theorem D_twice (w : wX) (t : af_T) (D : Nat) (v0 : Int) (v1 : Int) (q0 : R32 v0) (q1 : R32 v1) : PC w D 220 [.int (i32 v0), .int (i32 v1)] t (QS (FP1 t) (rf_twice v0 v1)) := by
  refine Pc_of (fun D bb => ?_) D
  unfold rf_twice
  show PP bb w D pm_220 (0, [(0, .int (i32 v0)), (1, .int (i32 v1))], [], t, 0, 0) _
  refine P_ld 1 (.int (i32 v1)) rfl (fun _ => rfl) ?_
  refine P_ld 3 (.int (i32 61)) rfl (fun _ => rfl) ?_
  refine P_icE 50 6 rfl rfl rfl q1 (l32 61 rfl) rfl (fun h1 => ?_) (fun h1 => ?_)
  · skip
    refine P_ld 7 (.int (i32 v0)) rfl (fun _ => rfl) ?_
    refine P_ld 9 (.int (i32 61)) rfl (fun _ => rfl) ?_
    refine P_icE 16 12 rfl rfl rfl q0 (l32 61 rfl) rfl (fun h8 => ?_) (fun h8 => ?_)
    · skip
      refine P_ld 13 (.int (i32 4)) rfl (fun _ => rfl) ?_
      refine P_goto 49 rfl (fun _ => rfl) ?_
      exact dg_twice_49 w t D bb 4 (l32 4 rfl) (jk [(0, v0), (1, v1)])
    · skip
      refine P_ld 17 (.int (i32 v0)) rfl (fun _ => rfl) ?_
      refine P_ld 19 (.int (i32 33)) rfl (fun _ => rfl) ?_
      refine P_icE 26 22 rfl rfl rfl q0 (l32 33 rfl) rfl (fun h9 => ?_) (fun h9 => ?_)
      · skip
        refine P_ld 23 (.int (i32 5)) rfl (fun _ => rfl) ?_
        refine P_goto 49 rfl (fun _ => rfl) ?_
        exact dg_twice_49 w t D bb 5 (l32 5 rfl) (jk [(0, v0), (1, v1)])
      · skip
        refine P_ld 27 (.int (i32 v0)) rfl (fun _ => rfl) ?_
        refine P_ld 29 (.int (i32 60)) rfl (fun _ => rfl) ?_
        refine P_icE 37 32 rfl rfl rfl q0 (l32 60 rfl) rfl (fun h10 => ?_) (fun h10 => ?_)
        · skip
          refine P_ld 34 (.int (i32 6)) rfl (fun _ => rfl) ?_
          refine P_goto 49 rfl (fun _ => rfl) ?_
          exact dg_twice_49 w t D bb 6 (l32 6 rfl) (jk [(0, v0), (1, v1)])
        · skip
          refine P_ld 38 (.int (i32 v0)) rfl (fun _ => rfl) ?_
          refine P_ld 40 (.int (i32 62)) rfl (fun _ => rfl) ?_
          refine P_icE 48 43 rfl rfl rfl q0 (l32 62 rfl) rfl (fun h11 => ?_) (fun h11 => ?_)
          · skip
            refine P_ld 45 (.int (i32 7)) rfl (fun _ => rfl) ?_
            refine P_goto 49 rfl (fun _ => rfl) ?_
            exact dg_twice_49 w t D bb 7 (l32 7 rfl) (jk [(0, v0), (1, v1)])
          · skip
            refine P_ld 49 (.int (i32 (-1))) rfl (fun _ => rfl) ?_
            exact dg_twice_49 w t D bb (-1) (l32 (-1) rfl) (jk [(0, v0), (1, v1)])
  · skip
    refine P_ld 51 (.int (i32 v0)) rfl (fun _ => rfl) ?_
    refine P_ld 52 (.int (i32 v1)) rfl (fun _ => rfl) ?_
    refine P_icF 57 55 rfl rfl rfl q0 q1 rfl (fun h2 => ?_) (fun h2 => ?_)
    · skip
      refine P_ld 58 (.int (i32 v0)) rfl (fun _ => rfl) ?_
      refine P_ld 60 (.int (i32 43)) rfl (fun _ => rfl) ?_
      refine P_icE 68 63 rfl rfl rfl q0 (l32 43 rfl) rfl (fun h3 => ?_) (fun h3 => ?_)
      · skip
        refine P_ld 65 (.int (i32 8)) rfl (fun _ => rfl) ?_
        refine P_goto 113 rfl (fun _ => rfl) ?_
        exact dg_twice_113 w t D bb 8 (l32 8 rfl) (jk [(0, v0), (1, v1)])
      · skip
        refine P_ld 69 (.int (i32 v0)) rfl (fun _ => rfl) ?_
        refine P_ld 71 (.int (i32 38)) rfl (fun _ => rfl) ?_
        refine P_icE 79 74 rfl rfl rfl q0 (l32 38 rfl) rfl (fun h4 => ?_) (fun h4 => ?_)
        · skip
          refine P_ld 76 (.int (i32 9)) rfl (fun _ => rfl) ?_
          refine P_goto 113 rfl (fun _ => rfl) ?_
          exact dg_twice_113 w t D bb 9 (l32 9 rfl) (jk [(0, v0), (1, v1)])
        · skip
          refine P_ld 80 (.int (i32 v0)) rfl (fun _ => rfl) ?_
          refine P_ld 82 (.int (i32 124)) rfl (fun _ => rfl) ?_
          refine P_icE 90 85 rfl rfl rfl q0 (l32 124 rfl) rfl (fun h5 => ?_) (fun h5 => ?_)
          · skip
            refine P_ld 87 (.int (i32 10)) rfl (fun _ => rfl) ?_
            refine P_goto 113 rfl (fun _ => rfl) ?_
            exact dg_twice_113 w t D bb 10 (l32 10 rfl) (jk [(0, v0), (1, v1)])
          · skip
            refine P_ld 91 (.int (i32 v0)) rfl (fun _ => rfl) ?_
            refine P_ld 93 (.int (i32 60)) rfl (fun _ => rfl) ?_
            refine P_icE 101 96 rfl rfl rfl q0 (l32 60 rfl) rfl (fun h6 => ?_) (fun h6 => ?_)
            · skip
              refine P_ld 98 (.int (i32 11)) rfl (fun _ => rfl) ?_
              refine P_goto 113 rfl (fun _ => rfl) ?_
              exact dg_twice_113 w t D bb 11 (l32 11 rfl) (jk [(0, v0), (1, v1)])
            · skip
              refine P_ld 102 (.int (i32 v0)) rfl (fun _ => rfl) ?_
              refine P_ld 104 (.int (i32 62)) rfl (fun _ => rfl) ?_
              refine P_icE 112 107 rfl rfl rfl q0 (l32 62 rfl) rfl (fun h7 => ?_) (fun h7 => ?_)
              · skip
                refine P_ld 109 (.int (i32 12)) rfl (fun _ => rfl) ?_
                refine P_goto 113 rfl (fun _ => rfl) ?_
                exact dg_twice_113 w t D bb 12 (l32 12 rfl) (jk [(0, v0), (1, v1)])
              · skip
                refine P_ld 113 (.int (i32 (-1))) rfl (fun _ => rfl) ?_
                exact dg_twice_113 w t D bb (-1) (l32 (-1) rfl) (jk [(0, v0), (1, v1)])
    · skip
      refine P_ld 56 (.int (i32 (-1))) rfl (fun _ => rfl) ?_
      exact P_rp1 rfl (l32 (-1) rfl)
end X26A
