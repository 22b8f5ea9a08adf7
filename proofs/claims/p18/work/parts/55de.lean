noncomputable section X55DE
def cs_tb_cutKeys_b103_b104_5 (B : oB) (s : Int × Int × mR) : Prop := R32 s.1 ∧ R32 s.2.1 ∧ KCo B s.2.2
def cx_tb_cutKeys_b103_b104_5 (B : oB) : (Int × mR) → Prop := (fun (e : Int × mR) => R32 e.1 ∧ KCo B e.2)
def hd_tb_cutKeys_b103_b104_5 (B : oB) (c : Nat → Option am_C) (N : Nat) (v0 : Int) (v1 : Int) (v2 : Int) (s : Int × Int × mR) (j : Nat → Int) : ag_St af_T := (5, [(0, .ref (tbr v0)), (1, .ref (obo B v1 + (3 + 1))), (2, .ref (obo B v2 + (4 + 1))), (3, .int (i32 s.1)), (4, .int (i32 s.2.1)), (5, .long (i64 (j 5))), (7, .long (i64 (j 7)))], [], (khp s.2.2 c, N), 0, 0)
def ex_tb_cutKeys_b103_b104_5 (B : oB) (c : Nat → Option am_C) (N : Nat) (v0 : Int) (v1 : Int) (v2 : Int) : (Int × mR) → (Nat → Int) → ag_St af_T := (fun (e : Int × mR) (j : Nat → Int) => ((122, [(0, .ref (tbr (j 0))), (1, .ref (obo B (j 1) + (3 + 1))), (2, .ref (obo B (j 2) + (4 + 1))), (3, .int (i32 e.1)), (4, .int (i32 (j 4))), (5, .long (i64 (j 5))), (7, .long (i64 (j 7)))], [], (khp e.2 c, N), 0, 0) : ag_St af_T))
def kfl_tb_cutKeys_b103_b104_114 (v0 : Int) (v1 : Int) (v2 : Int) (v4 : Int) (u0 : Int) (u1 : Int) (m : mR) : Option (Sum (Int × Int × mR) (Int × mR)) :=
  some (.inl (and32 u0 u1, cut (v4 + 1), m))
theorem dg_tb_cutKeys_b103_b104_114 (B : oB) (w : wX) (c : Nat → Option am_C) (N D : Nat) (bb : Nat) (v0 : Int) (v1 : Int) (v2 : Int) (v4 : Int) (u0 : Int) (u1 : Int) (q0 : Rt v0) (q1 : OKo B v1) (q2 : OKo B v2) (q4 : R32 v4) (r0 : R32 u0) (r1 : R32 u1) (m : mR) (hm : KCo B m) (j : Nat → Int) (Q2 : Sum (Int × Int × mR) (Int × mR) → ag_Re af_T → Prop) (H1 : ∀ s j, cs_tb_cutKeys_b103_b104_5 B s → PP bb w D pm_188 (hd_tb_cutKeys_b103_b104_5 B c N v0 v1 v2 s j) (Q2 (.inl s))) (H2 : ∀ x j, cx_tb_cutKeys_b103_b104_5 B x → PP bb w D pm_188 (ex_tb_cutKeys_b103_b104_5 B c N v0 v1 v2 x j) (Q2 (.inr x))) : PP bb w D pm_188 (114, [(0, .ref (tbr v0)), (1, .ref (obo B v1 + (3 + 1))), (2, .ref (obo B v2 + (4 + 1))), (3, .int (i32 (j 3))), (4, .int (i32 v4)), (5, .long (i64 (j 5))), (7, .long (i64 (j 7)))], [.int (i32 u1), .int (i32 u0)], (khp m c, N), 0, 0) (QS Q2 (kfl_tb_cutKeys_b103_b104_114 v0 v1 v2 v4 u0 u1 m)) := by
  unfold kfl_tb_cutKeys_b103_b104_114
  show PP bb w D pm_188 (114, [(0, .ref (tbr v0)), (1, .ref (obo B v1 + (3 + 1))), (2, .ref (obo B v2 + (4 + 1))), (3, .int (i32 (j 3))), (4, .int (i32 v4)), (5, .long (i64 (j 5))), (7, .long (i64 (j 7)))], [.int (i32 u1), .int (i32 u0)], (khp (mO m [] []) c, N), 0, 0) _
  refine P_op 115 (and32 u0 u1) _ rfl (fun _ => rfl) (i32_of _).symm ?_
  refine P_sto 116 [(3, .int (i32 (and32 u0 u1))), (0, .ref (tbr v0)), (1, .ref (obo B v1 + (3 + 1))), (2, .ref (obo B v2 + (4 + 1))), (4, .int (i32 v4)), (5, .long (i64 (j 5))), (7, .long (i64 (j 7)))] rfl (fun _ => rfl) ?_
  refine P_inc 119 [(4, .int (i32 (cut (v4 + 1)))), (3, .int (i32 (and32 u0 u1))), (0, .ref (tbr v0)), (1, .ref (obo B v1 + (3 + 1))), (2, .ref (obo B v2 + (4 + 1))), (5, .long (i64 (j 5))), (7, .long (i64 (j 7)))] rfl rfl (by decide) rfl rfl ?_
  refine P_goto 5 rfl (fun _ => rfl) ?_
  refine P_some ?_
  refine P_lv (b := [(0, .ref (tbr v0)), (1, .ref (obo B v1 + (3 + 1))), (2, .ref (obo B v2 + (4 + 1))), (3, .int (i32 (and32 u0 u1))), (4, .int (i32 (cut (v4 + 1)))), (5, .long (i64 (j 5))), (7, .long (i64 (j 7)))]) rfl rfl ⟨rfl, rfl, rfl, rfl, rfl, rfl, rfl, trivial⟩ ?_
  exact H1 (and32 u0 u1, cut (v4 + 1), m) (jk [(5, j 5), (7, j 7)]) ⟨t32_r, cut_r, hm⟩
def kfl_tb_cutKeys_b103_b104_109 (v0 : Int) (v1 : Int) (v2 : Int) (v4 : Int) (u0 : Int) (m : mR) : Option (Sum (Int × Int × mR) (Int × mR)) :=
  kfl_tb_cutKeys_b103_b104_114 v0 v1 v2 v4 u0 1 m
theorem dg_tb_cutKeys_b103_b104_109 (B : oB) (w : wX) (c : Nat → Option am_C) (N D : Nat) (bb : Nat) (v0 : Int) (v1 : Int) (v2 : Int) (v4 : Int) (u0 : Int) (q0 : Rt v0) (q1 : OKo B v1) (q2 : OKo B v2) (q4 : R32 v4) (r0 : R32 u0) (m : mR) (hm : KCo B m) (j : Nat → Int) (Q2 : Sum (Int × Int × mR) (Int × mR) → ag_Re af_T → Prop) (H1 : ∀ s j, cs_tb_cutKeys_b103_b104_5 B s → PP bb w D pm_188 (hd_tb_cutKeys_b103_b104_5 B c N v0 v1 v2 s j) (Q2 (.inl s))) (H2 : ∀ x j, cx_tb_cutKeys_b103_b104_5 B x → PP bb w D pm_188 (ex_tb_cutKeys_b103_b104_5 B c N v0 v1 v2 x j) (Q2 (.inr x))) : PP bb w D pm_188 (109, [(0, .ref (tbr v0)), (1, .ref (obo B v1 + (3 + 1))), (2, .ref (obo B v2 + (4 + 1))), (3, .int (i32 (j 3))), (4, .int (i32 v4)), (5, .long (i64 (j 5))), (7, .long (i64 (j 7)))], [.int (i32 u0)], (khp m c, N), 0, 0) (QS Q2 (kfl_tb_cutKeys_b103_b104_109 v0 v1 v2 v4 u0 m)) := by
  unfold kfl_tb_cutKeys_b103_b104_109
  show PP bb w D pm_188 (109, [(0, .ref (tbr v0)), (1, .ref (obo B v1 + (3 + 1))), (2, .ref (obo B v2 + (4 + 1))), (3, .int (i32 (j 3))), (4, .int (i32 v4)), (5, .long (i64 (j 5))), (7, .long (i64 (j 7)))], [.int (i32 u0)], (khp (mO m [] []) c, N), 0, 0) _
  refine P_ld 110 (.int (i32 1)) rfl (fun _ => rfl) ?_
  refine P_goto 114 rfl (fun _ => rfl) ?_
  exact dg_tb_cutKeys_b103_b104_114 B w c N D bb v0 v1 v2 v4 u0 1 q0 q1 q2 q4 r0 (l32 1 rfl) m hm (jk [(3, j 3), (5, j 5), (7, j 7)]) Q2 H1 H2
def kfl_tb_cutKeys_b103_b104_81 (v0 : Int) (v1 : Int) (v2 : Int) (v4 : Int) (v7 : Int) (u0 : Int) (u1 : Int) (m : mR) : Option (Sum (Int × Int × mR) (Int × mR)) :=
  if (m.2 81) (65536 * v0 + v4) = 313 then
    if cmp64 (and64 v7 (cutl (v7 + 1))) 0 = 0 then
      kfl_tb_cutKeys_b103_b104_109 v0 v1 v2 v4 (and32 u0 u1) m
    else
      kfl_tb_cutKeys_b103_b104_114 v0 v1 v2 v4 (and32 u0 u1) 0 m
  else
    kfl_tb_cutKeys_b103_b104_109 v0 v1 v2 v4 (and32 u0 u1) m
theorem dg_tb_cutKeys_b103_b104_81 (B : oB) (w : wX) (c : Nat → Option am_C) (N D : Nat) (bb : Nat) (v0 : Int) (v1 : Int) (v2 : Int) (v4 : Int) (v7 : Int) (u0 : Int) (u1 : Int) (q0 : Rt v0) (q1 : OKo B v1) (q2 : OKo B v2) (q4 : R32 v4) (q7 : R64 v7) (r0 : R32 u0) (r1 : R32 u1) (m : mR) (hm : KCo B m) (j : Nat → Int) (Q2 : Sum (Int × Int × mR) (Int × mR) → ag_Re af_T → Prop) (H1 : ∀ s j, cs_tb_cutKeys_b103_b104_5 B s → PP bb w D pm_188 (hd_tb_cutKeys_b103_b104_5 B c N v0 v1 v2 s j) (Q2 (.inl s))) (H2 : ∀ x j, cx_tb_cutKeys_b103_b104_5 B x → PP bb w D pm_188 (ex_tb_cutKeys_b103_b104_5 B c N v0 v1 v2 x j) (Q2 (.inr x))) : PP bb w D pm_188 (81, [(0, .ref (tbr v0)), (1, .ref (obo B v1 + (3 + 1))), (2, .ref (obo B v2 + (4 + 1))), (3, .int (i32 (j 3))), (4, .int (i32 v4)), (5, .long (i64 (j 5))), (7, .long (i64 v7))], [.int (i32 u1), .int (i32 u0)], (khp m c, N), 0, 0) (QS Q2 (kfl_tb_cutKeys_b103_b104_81 v0 v1 v2 v4 v7 u0 u1 m)) := by
  unfold kfl_tb_cutKeys_b103_b104_81
  show PP bb w D pm_188 (81, [(0, .ref (tbr v0)), (1, .ref (obo B v1 + (3 + 1))), (2, .ref (obo B v2 + (4 + 1))), (3, .int (i32 (j 3))), (4, .int (i32 v4)), (5, .long (i64 (j 5))), (7, .long (i64 v7))], [.int (i32 u1), .int (i32 u0)], (khp (mO m [] []) c, N), 0, 0) _
  refine P_op 82 (and32 u0 u1) _ rfl (fun _ => rfl) (i32_of _).symm ?_
  refine P_sto 83 [(3, .int (i32 (and32 u0 u1))), (0, .ref (tbr v0)), (1, .ref (obo B v1 + (3 + 1))), (2, .ref (obo B v2 + (4 + 1))), (4, .int (i32 v4)), (5, .long (i64 (j 5))), (7, .long (i64 v7))] rfl (fun _ => rfl) ?_
  refine P_ld 84 (.int (i32 (and32 u0 u1))) rfl (fun _ => rfl) ?_
  refine P_ld 85 (.ref (tbr v0)) rfl (fun _ => rfl) ?_
  refine PK_gfr 88 rfl rfl q0.1 q0.2 rfl ?_
  refine P_ld 90 (.int (i32 v4)) rfl (fun _ => rfl) ?_
  refine PK_ialt2 91 2 (m.2 81) rfl rfl rfl q0 q4 rfl ?_
  refine P_ld 94 (.int (i32 313)) rfl (fun _ => rfl) ?_
  refine P_icE 109 97 rfl rfl rfl (kE_i (KCn_a hm.1 81) rfl _) (l32 313 rfl) rfl (fun h3 => ?_) (fun h3 => ?_)
  · skip
    refine P_ld 99 (.long (i64 v7)) rfl (fun _ => rfl) ?_
    refine P_ld 101 (.long (i64 v7)) rfl (fun _ => rfl) ?_
    refine P_ld 102 (.long (i64 1)) rfl (fun _ => rfl) ?_
    refine P_opl 103 (cutl (v7 + 1)) _ rfl (fun _ => rfl) p_add ?_
    refine P_opl 104 (and64 v7 (cutl (v7 + 1))) _ rfl (fun _ => rfl) (Int64.ofInt_toInt _).symm ?_
    refine P_ld 105 (.long (i64 0)) rfl (fun _ => rfl) ?_
    refine P_op 106 (cmp64 (and64 v7 (cutl (v7 + 1))) 0) _ rfl (fun _ => rfl) (o_cmp t64_r (l64 0 rfl)) ?_
    refine P_ifE 113 109 rfl rfl rfl cmp64_r rfl (fun h4 => ?_) (fun h4 => ?_)
    · skip
      refine P_lv (b := [(0, .ref (tbr v0)), (1, .ref (obo B v1 + (3 + 1))), (2, .ref (obo B v2 + (4 + 1))), (3, .int (i32 (and32 u0 u1))), (4, .int (i32 v4)), (5, .long (i64 (j 5))), (7, .long (i64 v7))]) rfl rfl ⟨rfl, rfl, rfl, rfl, rfl, rfl, rfl, trivial⟩ ?_
      exact dg_tb_cutKeys_b103_b104_109 B w c N D bb v0 v1 v2 v4 (and32 u0 u1) q0 q1 q2 q4 t32_r m hm (jk [(3, and32 u0 u1), (5, j 5), (7, v7)]) Q2 H1 H2
    · skip
      refine P_ld 114 (.int (i32 0)) rfl (fun _ => rfl) ?_
      refine P_lv (b := [(0, .ref (tbr v0)), (1, .ref (obo B v1 + (3 + 1))), (2, .ref (obo B v2 + (4 + 1))), (3, .int (i32 (and32 u0 u1))), (4, .int (i32 v4)), (5, .long (i64 (j 5))), (7, .long (i64 v7))]) rfl rfl ⟨rfl, rfl, rfl, rfl, rfl, rfl, rfl, trivial⟩ ?_
      exact dg_tb_cutKeys_b103_b104_114 B w c N D bb v0 v1 v2 v4 (and32 u0 u1) 0 q0 q1 q2 q4 t32_r (l32 0 rfl) m hm (jk [(3, and32 u0 u1), (5, j 5), (7, v7)]) Q2 H1 H2
  · skip
    refine P_lv (b := [(0, .ref (tbr v0)), (1, .ref (obo B v1 + (3 + 1))), (2, .ref (obo B v2 + (4 + 1))), (3, .int (i32 (and32 u0 u1))), (4, .int (i32 v4)), (5, .long (i64 (j 5))), (7, .long (i64 v7))]) rfl rfl ⟨rfl, rfl, rfl, rfl, rfl, rfl, rfl, trivial⟩ ?_
    exact dg_tb_cutKeys_b103_b104_109 B w c N D bb v0 v1 v2 v4 (and32 u0 u1) q0 q1 q2 q4 t32_r m hm (jk [(3, and32 u0 u1), (5, j 5), (7, v7)]) Q2 H1 H2
def kfl_tb_cutKeys_b103_b104_76 (v0 : Int) (v1 : Int) (v2 : Int) (v4 : Int) (v7 : Int) (u0 : Int) (m : mR) : Option (Sum (Int × Int × mR) (Int × mR)) :=
  kfl_tb_cutKeys_b103_b104_81 v0 v1 v2 v4 v7 u0 1 m
theorem dg_tb_cutKeys_b103_b104_76 (B : oB) (w : wX) (c : Nat → Option am_C) (N D : Nat) (bb : Nat) (v0 : Int) (v1 : Int) (v2 : Int) (v4 : Int) (v7 : Int) (u0 : Int) (q0 : Rt v0) (q1 : OKo B v1) (q2 : OKo B v2) (q4 : R32 v4) (q7 : R64 v7) (r0 : R32 u0) (m : mR) (hm : KCo B m) (j : Nat → Int) (Q2 : Sum (Int × Int × mR) (Int × mR) → ag_Re af_T → Prop) (H1 : ∀ s j, cs_tb_cutKeys_b103_b104_5 B s → PP bb w D pm_188 (hd_tb_cutKeys_b103_b104_5 B c N v0 v1 v2 s j) (Q2 (.inl s))) (H2 : ∀ x j, cx_tb_cutKeys_b103_b104_5 B x → PP bb w D pm_188 (ex_tb_cutKeys_b103_b104_5 B c N v0 v1 v2 x j) (Q2 (.inr x))) : PP bb w D pm_188 (76, [(0, .ref (tbr v0)), (1, .ref (obo B v1 + (3 + 1))), (2, .ref (obo B v2 + (4 + 1))), (3, .int (i32 (j 3))), (4, .int (i32 v4)), (5, .long (i64 (j 5))), (7, .long (i64 v7))], [.int (i32 u0)], (khp m c, N), 0, 0) (QS Q2 (kfl_tb_cutKeys_b103_b104_76 v0 v1 v2 v4 v7 u0 m)) := by
  unfold kfl_tb_cutKeys_b103_b104_76
  show PP bb w D pm_188 (76, [(0, .ref (tbr v0)), (1, .ref (obo B v1 + (3 + 1))), (2, .ref (obo B v2 + (4 + 1))), (3, .int (i32 (j 3))), (4, .int (i32 v4)), (5, .long (i64 (j 5))), (7, .long (i64 v7))], [.int (i32 u0)], (khp (mO m [] []) c, N), 0, 0) _
  refine P_ld 77 (.int (i32 1)) rfl (fun _ => rfl) ?_
  refine P_goto 81 rfl (fun _ => rfl) ?_
  exact dg_tb_cutKeys_b103_b104_81 B w c N D bb v0 v1 v2 v4 v7 u0 1 q0 q1 q2 q4 q7 r0 (l32 1 rfl) m hm (jk [(3, j 3), (5, j 5)]) Q2 H1 H2
def kfb_tb_cutKeys_b103_b104_5 (v0 : Int) (v1 : Int) (v2 : Int) (s : Int × Int × mR) : Option (Sum (Int × Int × mR) (Int × mR)) :=
  if (s.2.2.2 72) v0 ≤ s.2.1 then
    some (.inr (s.1, s.2.2))
  else
    bnd (kf_pw_ones ((s.2.2.2 82) (65536 * v0 + s.2.1)) s.2.2) fun y8 =>
    if (s.2.2.2 81) (65536 * v0 + s.2.1) = 312 then
      if cmp64 (xor64 ((upI (s.2.2.2 104) (65536 * v2 + s.2.1) (and64 ((s.2.2.2 104) (65536 * v2 + s.2.1)) y8)) (65536 * v2 + s.2.1)) y8) 0 = 0 then
        kfl_tb_cutKeys_b103_b104_76 v0 v1 v2 s.2.1 (xor64 ((upI (s.2.2.2 104) (65536 * v2 + s.2.1) (and64 ((s.2.2.2 104) (65536 * v2 + s.2.1)) y8)) (65536 * v2 + s.2.1)) y8) s.1 (mO s.2.2 [] [(103, upI (s.2.2.2 103) (65536 * v1 + s.2.1) (and64 ((s.2.2.2 103) (65536 * v1 + s.2.1)) ((upI (s.2.2.2 104) (65536 * v2 + s.2.1) (and64 ((s.2.2.2 104) (65536 * v2 + s.2.1)) y8)) (65536 * v2 + s.2.1)))), (104, upI (s.2.2.2 104) (65536 * v2 + s.2.1) (and64 ((s.2.2.2 104) (65536 * v2 + s.2.1)) y8))])
      else
        kfl_tb_cutKeys_b103_b104_81 v0 v1 v2 s.2.1 (xor64 ((upI (s.2.2.2 104) (65536 * v2 + s.2.1) (and64 ((s.2.2.2 104) (65536 * v2 + s.2.1)) y8)) (65536 * v2 + s.2.1)) y8) s.1 0 (mO s.2.2 [] [(103, upI (s.2.2.2 103) (65536 * v1 + s.2.1) (and64 ((s.2.2.2 103) (65536 * v1 + s.2.1)) ((upI (s.2.2.2 104) (65536 * v2 + s.2.1) (and64 ((s.2.2.2 104) (65536 * v2 + s.2.1)) y8)) (65536 * v2 + s.2.1)))), (104, upI (s.2.2.2 104) (65536 * v2 + s.2.1) (and64 ((s.2.2.2 104) (65536 * v2 + s.2.1)) y8))])
    else
      kfl_tb_cutKeys_b103_b104_76 v0 v1 v2 s.2.1 (xor64 ((upI (s.2.2.2 104) (65536 * v2 + s.2.1) (and64 ((s.2.2.2 104) (65536 * v2 + s.2.1)) y8)) (65536 * v2 + s.2.1)) y8) s.1 (mO s.2.2 [] [(103, upI (s.2.2.2 103) (65536 * v1 + s.2.1) (and64 ((s.2.2.2 103) (65536 * v1 + s.2.1)) ((upI (s.2.2.2 104) (65536 * v2 + s.2.1) (and64 ((s.2.2.2 104) (65536 * v2 + s.2.1)) y8)) (65536 * v2 + s.2.1)))), (104, upI (s.2.2.2 104) (65536 * v2 + s.2.1) (and64 ((s.2.2.2 104) (65536 * v2 + s.2.1)) y8))])
theorem dh_tb_cutKeys_b103_b104_5 (B : oB) (w : wX) (c : Nat → Option am_C) (N D : Nat) (v0 : Int) (v1 : Int) (v2 : Int) (q0 : Rt v0) (q1 : OKo B v1) (q2 : OKo B v2) (bb : Nat) (Q2 : Sum (Int × Int × mR) (Int × mR) → ag_Re af_T → Prop) (H1 : ∀ s j, cs_tb_cutKeys_b103_b104_5 B s → PP bb w D pm_188 (hd_tb_cutKeys_b103_b104_5 B c N v0 v1 v2 s j) (Q2 (.inl s))) (H2 : ∀ x j, cx_tb_cutKeys_b103_b104_5 B x → PP bb w D pm_188 (ex_tb_cutKeys_b103_b104_5 B c N v0 v1 v2 x j) (Q2 (.inr x))) (s : Int × Int × mR) (j : Nat → Int) (hs : cs_tb_cutKeys_b103_b104_5 B s) : PP (bb + 1) w D pm_188 (hd_tb_cutKeys_b103_b104_5 B c N v0 v1 v2 s j) (QS Q2 (kfb_tb_cutKeys_b103_b104_5 v0 v1 v2 s)) := by
  obtain ⟨g3, g4, gm⟩ := hs
  unfold kfb_tb_cutKeys_b103_b104_5
  show PP (bb + 1) w D pm_188 (5, [(0, .ref (tbr v0)), (1, .ref (obo B v1 + (3 + 1))), (2, .ref (obo B v2 + (4 + 1))), (3, .int (i32 s.1)), (4, .int (i32 s.2.1)), (5, .long (i64 (j 5))), (7, .long (i64 (j 7)))], [], (khp (mO s.2.2 [] []) c, N), 0, 0) _
  refine P1_ld 7 (.int (i32 s.2.1)) rfl (fun _ => rfl) ?_
  refine P_ld 8 (.ref (tbr v0)) rfl (fun _ => rfl) ?_
  refine PK_gfi 11 72 (s.2.2.2 72) rfl rfl q0.1 q0.2 rfl rfl ?_
  refine P_icF 122 14 rfl rfl rfl g4 (kE_i (KCn_a gm.1 72) rfl _) rfl (fun h7 => ?_) (fun h7 => ?_)
  · skip
    refine P_some ?_
    exact H2 (s.1, s.2.2) (jk [(0, v0), (1, v1), (2, v2), (4, s.2.1), (5, j 5), (7, j 7)]) ⟨g3, gm⟩
  · skip
    refine P_ld 15 (.ref (tbr v0)) rfl (fun _ => rfl) ?_
    refine PK_gfr 18 rfl rfl q0.1 q0.2 rfl ?_
    refine P_ld 20 (.int (i32 s.2.1)) rfl (fun _ => rfl) ?_
    refine PK_ialt2 21 3 (s.2.2.2 82) rfl rfl rfl q0 g4 rfl ?_
    refine P_cp2 24 116 [.int (i32 ((s.2.2.2 82) (65536 * v0 + s.2.1)))] [] rfl (fun _ => rfl) rfl (D_pw_ones w s.2.2 c N D gm.1 ((s.2.2.2 82) (65536 * v0 + s.2.1)) (kE_i (KCn_a gm.1 82) rfl _)) (fun y8 h9 => ?_)
    refine P_sto 26 [(5, .long (i64 y8)), (0, .ref (tbr v0)), (1, .ref (obo B v1 + (3 + 1))), (2, .ref (obo B v2 + (4 + 1))), (3, .int (i32 s.1)), (4, .int (i32 s.2.1)), (7, .long (i64 (j 7)))] rfl (fun _ => rfl) ?_
    refine P_ld 27 (.ref (obo B v2 + (4 + 1))) rfl (fun _ => rfl) ?_
    refine P_ld 29 (.int (i32 s.2.1)) rfl (fun _ => rfl) ?_
    refine P_dup2 30 rfl (fun _ => rfl) ?_
    refine PK_lalo2 31 4 (s.2.2.2 104) rfl rfl rfl gm rfl rfl q2 g4 rfl ?_
    refine P_ld 33 (.long (i64 y8)) rfl (fun _ => rfl) ?_
    refine P_opl 34 (and64 ((s.2.2.2 104) (65536 * v2 + s.2.1)) y8) _ rfl (fun _ => rfl) (Int64.ofInt_toInt _).symm ?_
    refine PK_lasto2 (a' := [(104, upI (s.2.2.2 104) (65536 * v2 + s.2.1) (and64 ((s.2.2.2 104) (65536 * v2 + s.2.1)) y8))]) 35 4 (s.2.2.2 104) rfl rfl rfl gm rfl rfl q2 g4 rfl rfl ?_
    refine P_ld 36 (.ref (obo B v1 + (3 + 1))) rfl (fun _ => rfl) ?_
    refine P_ld 38 (.int (i32 s.2.1)) rfl (fun _ => rfl) ?_
    refine P_dup2 39 rfl (fun _ => rfl) ?_
    refine PK_lalo2 40 3 (s.2.2.2 103) rfl rfl rfl gm rfl rfl q1 g4 rfl ?_
    refine P_ld 41 (.ref (obo B v2 + (4 + 1))) rfl (fun _ => rfl) ?_
    refine P_ld 43 (.int (i32 s.2.1)) rfl (fun _ => rfl) ?_
    refine PK_lalo2 44 4 (upI (s.2.2.2 104) (65536 * v2 + s.2.1) (and64 ((s.2.2.2 104) (65536 * v2 + s.2.1)) y8)) rfl rfl rfl gm rfl rfl q2 g4 rfl ?_
    refine P_opl 45 (and64 ((s.2.2.2 103) (65536 * v1 + s.2.1)) ((upI (s.2.2.2 104) (65536 * v2 + s.2.1) (and64 ((s.2.2.2 104) (65536 * v2 + s.2.1)) y8)) (65536 * v2 + s.2.1))) _ rfl (fun _ => rfl) (Int64.ofInt_toInt _).symm ?_
    refine PK_lasto2 (a' := [(103, upI (s.2.2.2 103) (65536 * v1 + s.2.1) (and64 ((s.2.2.2 103) (65536 * v1 + s.2.1)) ((upI (s.2.2.2 104) (65536 * v2 + s.2.1) (and64 ((s.2.2.2 104) (65536 * v2 + s.2.1)) y8)) (65536 * v2 + s.2.1)))), (104, upI (s.2.2.2 104) (65536 * v2 + s.2.1) (and64 ((s.2.2.2 104) (65536 * v2 + s.2.1)) y8))]) 46 3 (s.2.2.2 103) rfl rfl rfl gm rfl rfl q1 g4 rfl rfl ?_
    refine P_ld 47 (.ref (obo B v2 + (4 + 1))) rfl (fun _ => rfl) ?_
    refine P_ld 49 (.int (i32 s.2.1)) rfl (fun _ => rfl) ?_
    refine PK_lalo2 50 4 (upI (s.2.2.2 104) (65536 * v2 + s.2.1) (and64 ((s.2.2.2 104) (65536 * v2 + s.2.1)) y8)) rfl rfl rfl gm rfl rfl q2 g4 rfl ?_
    refine P_ld 52 (.long (i64 y8)) rfl (fun _ => rfl) ?_
    refine P_opl 53 (xor64 ((upI (s.2.2.2 104) (65536 * v2 + s.2.1) (and64 ((s.2.2.2 104) (65536 * v2 + s.2.1)) y8)) (65536 * v2 + s.2.1)) y8) _ rfl (fun _ => rfl) (Int64.ofInt_toInt _).symm ?_
    refine P_sto 55 [(7, .long (i64 (xor64 ((upI (s.2.2.2 104) (65536 * v2 + s.2.1) (and64 ((s.2.2.2 104) (65536 * v2 + s.2.1)) y8)) (65536 * v2 + s.2.1)) y8))), (5, .long (i64 y8)), (0, .ref (tbr v0)), (1, .ref (obo B v1 + (3 + 1))), (2, .ref (obo B v2 + (4 + 1))), (3, .int (i32 s.1)), (4, .int (i32 s.2.1))] rfl (fun _ => rfl) ?_
    refine P_ld 56 (.int (i32 s.1)) rfl (fun _ => rfl) ?_
    refine P_ld 57 (.ref (tbr v0)) rfl (fun _ => rfl) ?_
    refine PK_gfr 60 rfl rfl q0.1 q0.2 rfl ?_
    refine P_ld 62 (.int (i32 s.2.1)) rfl (fun _ => rfl) ?_
    refine PK_ialt2 63 2 (s.2.2.2 81) rfl rfl rfl q0 g4 rfl ?_
    refine P_ld 66 (.int (i32 312)) rfl (fun _ => rfl) ?_
    refine P_icE 76 69 rfl rfl rfl (kE_i (KCn_a gm.1 81) rfl _) (l32 312 rfl) rfl (fun h11 => ?_) (fun h11 => ?_)
    · skip
      refine P_ld 71 (.long (i64 (xor64 ((upI (s.2.2.2 104) (65536 * v2 + s.2.1) (and64 ((s.2.2.2 104) (65536 * v2 + s.2.1)) y8)) (65536 * v2 + s.2.1)) y8))) rfl (fun _ => rfl) ?_
      refine P_ld 72 (.long (i64 0)) rfl (fun _ => rfl) ?_
      refine P_op 73 (cmp64 (xor64 ((upI (s.2.2.2 104) (65536 * v2 + s.2.1) (and64 ((s.2.2.2 104) (65536 * v2 + s.2.1)) y8)) (65536 * v2 + s.2.1)) y8) 0) _ rfl (fun _ => rfl) (o_cmp t64_r (l64 0 rfl)) ?_
      refine P_ifE 80 76 rfl rfl rfl cmp64_r rfl (fun h12 => ?_) (fun h12 => ?_)
      · skip
        refine P_lv (b := [(0, .ref (tbr v0)), (1, .ref (obo B v1 + (3 + 1))), (2, .ref (obo B v2 + (4 + 1))), (3, .int (i32 s.1)), (4, .int (i32 s.2.1)), (5, .long (i64 y8)), (7, .long (i64 (xor64 ((upI (s.2.2.2 104) (65536 * v2 + s.2.1) (and64 ((s.2.2.2 104) (65536 * v2 + s.2.1)) y8)) (65536 * v2 + s.2.1)) y8)))]) rfl rfl ⟨rfl, rfl, rfl, rfl, rfl, rfl, rfl, trivial⟩ ?_
        exact dg_tb_cutKeys_b103_b104_76 B w c N D bb v0 v1 v2 s.2.1 (xor64 ((upI (s.2.2.2 104) (65536 * v2 + s.2.1) (and64 ((s.2.2.2 104) (65536 * v2 + s.2.1)) y8)) (65536 * v2 + s.2.1)) y8) s.1 q0 q1 q2 g4 t64_r g3 (mO s.2.2 [] [(103, upI (s.2.2.2 103) (65536 * v1 + s.2.1) (and64 ((s.2.2.2 103) (65536 * v1 + s.2.1)) ((upI (s.2.2.2 104) (65536 * v2 + s.2.1) (and64 ((s.2.2.2 104) (65536 * v2 + s.2.1)) y8)) (65536 * v2 + s.2.1)))), (104, upI (s.2.2.2 104) (65536 * v2 + s.2.1) (and64 ((s.2.2.2 104) (65536 * v2 + s.2.1)) y8))]) (KCo_mO gm rfl rfl (KC6 gm rfl) trivial ⟨(kE_ul (KCn_a gm.1 103) rfl t64_r), (kE_ul (KCn_a gm.1 104) rfl t64_r), trivial⟩) (jk [(3, s.1), (5, y8)]) Q2 H1 H2
      · skip
        refine P_ld 81 (.int (i32 0)) rfl (fun _ => rfl) ?_
        refine P_lv (b := [(0, .ref (tbr v0)), (1, .ref (obo B v1 + (3 + 1))), (2, .ref (obo B v2 + (4 + 1))), (3, .int (i32 s.1)), (4, .int (i32 s.2.1)), (5, .long (i64 y8)), (7, .long (i64 (xor64 ((upI (s.2.2.2 104) (65536 * v2 + s.2.1) (and64 ((s.2.2.2 104) (65536 * v2 + s.2.1)) y8)) (65536 * v2 + s.2.1)) y8)))]) rfl rfl ⟨rfl, rfl, rfl, rfl, rfl, rfl, rfl, trivial⟩ ?_
        exact dg_tb_cutKeys_b103_b104_81 B w c N D bb v0 v1 v2 s.2.1 (xor64 ((upI (s.2.2.2 104) (65536 * v2 + s.2.1) (and64 ((s.2.2.2 104) (65536 * v2 + s.2.1)) y8)) (65536 * v2 + s.2.1)) y8) s.1 0 q0 q1 q2 g4 t64_r g3 (l32 0 rfl) (mO s.2.2 [] [(103, upI (s.2.2.2 103) (65536 * v1 + s.2.1) (and64 ((s.2.2.2 103) (65536 * v1 + s.2.1)) ((upI (s.2.2.2 104) (65536 * v2 + s.2.1) (and64 ((s.2.2.2 104) (65536 * v2 + s.2.1)) y8)) (65536 * v2 + s.2.1)))), (104, upI (s.2.2.2 104) (65536 * v2 + s.2.1) (and64 ((s.2.2.2 104) (65536 * v2 + s.2.1)) y8))]) (KCo_mO gm rfl rfl (KC6 gm rfl) trivial ⟨(kE_ul (KCn_a gm.1 103) rfl t64_r), (kE_ul (KCn_a gm.1 104) rfl t64_r), trivial⟩) (jk [(3, s.1), (5, y8)]) Q2 H1 H2
    · skip
      refine P_lv (b := [(0, .ref (tbr v0)), (1, .ref (obo B v1 + (3 + 1))), (2, .ref (obo B v2 + (4 + 1))), (3, .int (i32 s.1)), (4, .int (i32 s.2.1)), (5, .long (i64 y8)), (7, .long (i64 (xor64 ((upI (s.2.2.2 104) (65536 * v2 + s.2.1) (and64 ((s.2.2.2 104) (65536 * v2 + s.2.1)) y8)) (65536 * v2 + s.2.1)) y8)))]) rfl rfl ⟨rfl, rfl, rfl, rfl, rfl, rfl, rfl, trivial⟩ ?_
      exact dg_tb_cutKeys_b103_b104_76 B w c N D bb v0 v1 v2 s.2.1 (xor64 ((upI (s.2.2.2 104) (65536 * v2 + s.2.1) (and64 ((s.2.2.2 104) (65536 * v2 + s.2.1)) y8)) (65536 * v2 + s.2.1)) y8) s.1 q0 q1 q2 g4 t64_r g3 (mO s.2.2 [] [(103, upI (s.2.2.2 103) (65536 * v1 + s.2.1) (and64 ((s.2.2.2 103) (65536 * v1 + s.2.1)) ((upI (s.2.2.2 104) (65536 * v2 + s.2.1) (and64 ((s.2.2.2 104) (65536 * v2 + s.2.1)) y8)) (65536 * v2 + s.2.1)))), (104, upI (s.2.2.2 104) (65536 * v2 + s.2.1) (and64 ((s.2.2.2 104) (65536 * v2 + s.2.1)) y8))]) (KCo_mO gm rfl rfl (KC6 gm rfl) trivial ⟨(kE_ul (KCn_a gm.1 103) rfl t64_r), (kE_ul (KCn_a gm.1 104) rfl t64_r), trivial⟩) (jk [(3, s.1), (5, y8)]) Q2 H1 H2
def kf_tb_cutKeys_b103_b104 (v0 : Int) (v1 : Int) (v2 : Int) (m : mR) : Option (Int × mR) :=
  bnd (whl (kfb_tb_cutKeys_b103_b104_5 v0 v1 v2) (1, 0, m)) (fun e13 : Int × mR =>
    some (e13.1, e13.2))
theorem D_tb_cutKeys_b103_b104 (B : oB) (w : wX) (m : mR) (c : Nat → Option am_C) (N D : Nat) (hm : KCo B m) (v0 : Int) (v1 : Int) (v2 : Int) (q0 : Rt v0) (q1 : OKo B v1) (q2 : OKo B v2) : PC w D 188 [.ref (tbr v0), .ref (obo B v1 + (3 + 1)), .ref (obo B v2 + (4 + 1))] (khp m c, N) (QS (FO1 B c N) (kf_tb_cutKeys_b103_b104 v0 v1 v2 m)) := by
  refine Pc_of (fun D bb => ?_) D
  unfold kf_tb_cutKeys_b103_b104
  show PP bb w D pm_188 (0, [(0, .ref (tbr v0)), (1, .ref (obo B v1 + (3 + 1))), (2, .ref (obo B v2 + (4 + 1)))], [], (khp (mO m [] []) c, N), 0, 0) _
  refine P_ld 1 (.int (i32 1)) rfl (fun _ => rfl) ?_
  refine P_sto 2 [(3, .int (i32 1)), (0, .ref (tbr v0)), (1, .ref (obo B v1 + (3 + 1))), (2, .ref (obo B v2 + (4 + 1)))] rfl (fun _ => rfl) ?_
  refine P_ld 3 (.int (i32 0)) rfl (fun _ => rfl) ?_
  refine P_sto 5 [(4, .int (i32 0)), (3, .int (i32 1)), (0, .ref (tbr v0)), (1, .ref (obo B v1 + (3 + 1))), (2, .ref (obo B v2 + (4 + 1)))] rfl (fun _ => rfl) ?_
  refine P_lv (b := [(0, .ref (tbr v0)), (1, .ref (obo B v1 + (3 + 1))), (2, .ref (obo B v2 + (4 + 1))), (3, .int (i32 1)), (4, .int (i32 0)), (5, .long (i64 0)), (7, .long (i64 0))]) rfl rfl ⟨rfl, rfl, rfl, rfl, rfl, trivial⟩ ?_
  refine P_bnd ?_
  refine P_whl (fun bb Q2 H1 H2 s9 j9 hs9 => dh_tb_cutKeys_b103_b104_5 B w c N D v0 v1 v2 q0 q1 q2 bb Q2 H1 H2 s9 j9 hs9) bb (fun e13 j q14 => ?_) (1, 0, m) (jk []) ⟨(l32 1 rfl), (l32 0 rfl), hm⟩
  obtain ⟨q15, q16⟩ := q14
  show PP bb w D pm_188 (122, [(0, .ref (tbr (j 0))), (1, .ref (obo B (j 1) + (3 + 1))), (2, .ref (obo B (j 2) + (4 + 1))), (3, .int (i32 e13.1)), (4, .int (i32 (j 4))), (5, .long (i64 (j 5))), (7, .long (i64 (j 7)))], [], (khp (mO e13.2 [] []) c, N), 0, 0) (QS _ (some (e13.1, e13.2)))
  refine P_ld 123 (.int (i32 e13.1)) rfl (fun _ => rfl) ?_
  exact P_ro1 rfl q15 q16
def cs_tb_same_b103_b104_2 (B : oB) (s : Int) : Prop := R32 s
def cx_tb_same_b103_b104_2 (B : oB) : (Sum (Int) (Unit)) → Prop := (sel (fun (e : Int) => R32 e) (fun (e : Unit) => True))
def hd_tb_same_b103_b104_2 (B : oB) (c : Nat → Option am_C) (N : Nat) (v0 : Int) (v1 : Int) (v2 : Int) (m : mR) (s : Int) (j : Nat → Int) : ag_St af_T := (2, [(0, .ref (tbr v0)), (1, .ref (obo B v1 + (3 + 1))), (2, .ref (obo B v2 + (4 + 1))), (3, .int (i32 s)), (4, .int (i32 (j 4))), (5, .int (i32 (j 5)))], [], (khp m c, N), 0, 0)
def ex_tb_same_b103_b104_2 (B : oB) (c : Nat → Option am_C) (N : Nat) (v0 : Int) (v1 : Int) (v2 : Int) (m : mR) : (Sum (Int) (Unit)) → (Nat → Int) → ag_St af_T := (sel (fun (e : Int) (j : Nat → Int) => ((84, [(0, .ref (tbr (j 0))), (1, .ref (obo B (j 1) + (3 + 1))), (2, .ref (obo B (j 2) + (4 + 1))), (3, .int (i32 e)), (4, .int (i32 (j 4))), (5, .int (i32 (j 5)))], [], (khp m c, N), 0, 0) : ag_St af_T)) (fun (e : Unit) (j : Nat → Int) => ((92, [(0, .ref (tbr (j 0))), (1, .ref (obo B (j 1) + (3 + 1))), (2, .ref (obo B (j 2) + (4 + 1))), (3, .int (i32 (j 3))), (4, .int (i32 (j 4))), (5, .int (i32 (j 5)))], [], (khp m c, N), 0, 0) : ag_St af_T)))
def cs_tb_same_b103_b104_16 (B : oB) (s : Int × Int) : Prop := R32 s.1 ∧ R32 s.2
def cx_tb_same_b103_b104_16 (B : oB) : (Int) → Prop := (fun (e : Int) => R32 e)
def hd_tb_same_b103_b104_16 (B : oB) (c : Nat → Option am_C) (N : Nat) (v0 : Int) (v1 : Int) (v2 : Int) (v3 : Int) (m : mR) (s : Int × Int) (j : Nat → Int) : ag_St af_T := (16, [(0, .ref (tbr v0)), (1, .ref (obo B v1 + (3 + 1))), (2, .ref (obo B v2 + (4 + 1))), (3, .int (i32 v3)), (4, .int (i32 s.1)), (5, .int (i32 s.2))], [], (khp m c, N), 0, 0)
def ex_tb_same_b103_b104_16 (B : oB) (c : Nat → Option am_C) (N : Nat) (v0 : Int) (v1 : Int) (v2 : Int) (v3 : Int) (m : mR) : (Int) → (Nat → Int) → ag_St af_T := (fun (e : Int) (j : Nat → Int) => ((79, [(0, .ref (tbr v0)), (1, .ref (obo B v1 + (3 + 1))), (2, .ref (obo B v2 + (4 + 1))), (3, .int (i32 v3)), (4, .int (i32 e)), (5, .int (i32 (j 5)))], [], (khp m c, N), 0, 0) : ag_St af_T))
def kfl_tb_same_b103_b104_79 (v0 : Int) (v1 : Int) (v2 : Int) (v3 : Int) (v4 : Int) (m : mR) : Option (Sum (Int) (Sum (Int) (Unit))) :=
  if v4 = 0 then
    some (.inl (cut (v3 + 1)))
  else
    some (.inr (.inl v3))
theorem dg_tb_same_b103_b104_79 (B : oB) (w : wX) (c : Nat → Option am_C) (N D : Nat) (bb : Nat) (v0 : Int) (v1 : Int) (v2 : Int) (v3 : Int) (v4 : Int) (q0 : Rt v0) (q1 : OKo B v1) (q2 : OKo B v2) (q3 : R32 v3) (q4 : R32 v4) (m : mR) (hm : KCo B m) (j : Nat → Int) (Q2 : Sum (Int) (Sum (Int) (Unit)) → ag_Re af_T → Prop) (H1 : ∀ s j, cs_tb_same_b103_b104_2 B s → PP bb w D pm_189 (hd_tb_same_b103_b104_2 B c N v0 v1 v2 m s j) (Q2 (.inl s))) (H2 : ∀ x j, cx_tb_same_b103_b104_2 B x → PP bb w D pm_189 (ex_tb_same_b103_b104_2 B c N v0 v1 v2 m x j) (Q2 (.inr x))) : PP bb w D pm_189 (79, [(0, .ref (tbr v0)), (1, .ref (obo B v1 + (3 + 1))), (2, .ref (obo B v2 + (4 + 1))), (3, .int (i32 v3)), (4, .int (i32 v4)), (5, .int (i32 (j 5)))], [], (khp m c, N), 0, 0) (QS Q2 (kfl_tb_same_b103_b104_79 v0 v1 v2 v3 v4 m)) := by
  unfold kfl_tb_same_b103_b104_79
  show PP bb w D pm_189 (79, [(0, .ref (tbr v0)), (1, .ref (obo B v1 + (3 + 1))), (2, .ref (obo B v2 + (4 + 1))), (3, .int (i32 v3)), (4, .int (i32 v4)), (5, .int (i32 (j 5)))], [], (khp (mO m [] []) c, N), 0, 0) _
  refine P_ld 81 (.int (i32 v4)) rfl (fun _ => rfl) ?_
  refine P_ifF 86 84 rfl rfl rfl q4 rfl (fun h3 => ?_) (fun h3 => ?_)
  · skip
    refine P_inc 89 [(3, .int (i32 (cut (v3 + 1)))), (0, .ref (tbr v0)), (1, .ref (obo B v1 + (3 + 1))), (2, .ref (obo B v2 + (4 + 1))), (4, .int (i32 v4)), (5, .int (i32 (j 5)))] rfl rfl (by decide) rfl rfl ?_
    refine P_goto 2 rfl (fun _ => rfl) ?_
    refine P_some ?_
    refine P_lv (b := [(0, .ref (tbr v0)), (1, .ref (obo B v1 + (3 + 1))), (2, .ref (obo B v2 + (4 + 1))), (3, .int (i32 (cut (v3 + 1)))), (4, .int (i32 v4)), (5, .int (i32 (j 5)))]) rfl rfl ⟨rfl, rfl, rfl, rfl, rfl, rfl, trivial⟩ ?_
    exact H1 (cut (v3 + 1)) (jk [(4, v4), (5, j 5)]) cut_r
  · skip
    refine P_some ?_
    exact H2 (.inl v3) (jk [(0, v0), (1, v1), (2, v2), (4, v4), (5, j 5)]) q3
def kfl_tb_same_b103_b104_70 (v0 : Int) (v1 : Int) (v2 : Int) (v3 : Int) (v5 : Int) (u0 : Int) (u1 : Int) (m : mR) : Option (Sum (Int × Int) (Int)) :=
  some (.inl (and32 u0 u1, cut (v5 + 1)))
theorem dg_tb_same_b103_b104_70 (B : oB) (w : wX) (c : Nat → Option am_C) (N D : Nat) (bb : Nat) (v0 : Int) (v1 : Int) (v2 : Int) (v3 : Int) (v5 : Int) (u0 : Int) (u1 : Int) (q0 : Rt v0) (q1 : OKo B v1) (q2 : OKo B v2) (q3 : R32 v3) (q5 : R32 v5) (r0 : R32 u0) (r1 : R32 u1) (m : mR) (hm : KCo B m) (j : Nat → Int) (Q2 : Sum (Int × Int) (Int) → ag_Re af_T → Prop) (H1 : ∀ s j, cs_tb_same_b103_b104_16 B s → PP bb w D pm_189 (hd_tb_same_b103_b104_16 B c N v0 v1 v2 v3 m s j) (Q2 (.inl s))) (H2 : ∀ x j, cx_tb_same_b103_b104_16 B x → PP bb w D pm_189 (ex_tb_same_b103_b104_16 B c N v0 v1 v2 v3 m x j) (Q2 (.inr x))) : PP bb w D pm_189 (70, [(0, .ref (tbr v0)), (1, .ref (obo B v1 + (3 + 1))), (2, .ref (obo B v2 + (4 + 1))), (3, .int (i32 v3)), (4, .int (i32 (j 4))), (5, .int (i32 v5))], [.int (i32 u1), .int (i32 u0)], (khp m c, N), 0, 0) (QS Q2 (kfl_tb_same_b103_b104_70 v0 v1 v2 v3 v5 u0 u1 m)) := by
  unfold kfl_tb_same_b103_b104_70
  show PP bb w D pm_189 (70, [(0, .ref (tbr v0)), (1, .ref (obo B v1 + (3 + 1))), (2, .ref (obo B v2 + (4 + 1))), (3, .int (i32 v3)), (4, .int (i32 (j 4))), (5, .int (i32 v5))], [.int (i32 u1), .int (i32 u0)], (khp (mO m [] []) c, N), 0, 0) _
  refine P_op 71 (and32 u0 u1) _ rfl (fun _ => rfl) (i32_of _).symm ?_
  refine P_sto 73 [(4, .int (i32 (and32 u0 u1))), (0, .ref (tbr v0)), (1, .ref (obo B v1 + (3 + 1))), (2, .ref (obo B v2 + (4 + 1))), (3, .int (i32 v3)), (5, .int (i32 v5))] rfl (fun _ => rfl) ?_
  refine P_inc 76 [(5, .int (i32 (cut (v5 + 1)))), (4, .int (i32 (and32 u0 u1))), (0, .ref (tbr v0)), (1, .ref (obo B v1 + (3 + 1))), (2, .ref (obo B v2 + (4 + 1))), (3, .int (i32 v3))] rfl rfl (by decide) rfl rfl ?_
  refine P_goto 16 rfl (fun _ => rfl) ?_
  refine P_some ?_
  refine P_lv (b := [(0, .ref (tbr v0)), (1, .ref (obo B v1 + (3 + 1))), (2, .ref (obo B v2 + (4 + 1))), (3, .int (i32 v3)), (4, .int (i32 (and32 u0 u1))), (5, .int (i32 (cut (v5 + 1))))]) rfl rfl ⟨rfl, rfl, rfl, rfl, rfl, rfl, trivial⟩ ?_
  exact H1 (and32 u0 u1, cut (v5 + 1)) (jk []) ⟨t32_r, cut_r⟩
def kfl_tb_same_b103_b104_69 (v0 : Int) (v1 : Int) (v2 : Int) (v3 : Int) (v5 : Int) (u0 : Int) (m : mR) : Option (Sum (Int × Int) (Int)) :=
  kfl_tb_same_b103_b104_70 v0 v1 v2 v3 v5 u0 0 m
theorem dg_tb_same_b103_b104_69 (B : oB) (w : wX) (c : Nat → Option am_C) (N D : Nat) (bb : Nat) (v0 : Int) (v1 : Int) (v2 : Int) (v3 : Int) (v5 : Int) (u0 : Int) (q0 : Rt v0) (q1 : OKo B v1) (q2 : OKo B v2) (q3 : R32 v3) (q5 : R32 v5) (r0 : R32 u0) (m : mR) (hm : KCo B m) (j : Nat → Int) (Q2 : Sum (Int × Int) (Int) → ag_Re af_T → Prop) (H1 : ∀ s j, cs_tb_same_b103_b104_16 B s → PP bb w D pm_189 (hd_tb_same_b103_b104_16 B c N v0 v1 v2 v3 m s j) (Q2 (.inl s))) (H2 : ∀ x j, cx_tb_same_b103_b104_16 B x → PP bb w D pm_189 (ex_tb_same_b103_b104_16 B c N v0 v1 v2 v3 m x j) (Q2 (.inr x))) : PP bb w D pm_189 (69, [(0, .ref (tbr v0)), (1, .ref (obo B v1 + (3 + 1))), (2, .ref (obo B v2 + (4 + 1))), (3, .int (i32 v3)), (4, .int (i32 (j 4))), (5, .int (i32 v5))], [.int (i32 u0)], (khp m c, N), 0, 0) (QS Q2 (kfl_tb_same_b103_b104_69 v0 v1 v2 v3 v5 u0 m)) := by
  unfold kfl_tb_same_b103_b104_69
  show PP bb w D pm_189 (69, [(0, .ref (tbr v0)), (1, .ref (obo B v1 + (3 + 1))), (2, .ref (obo B v2 + (4 + 1))), (3, .int (i32 v3)), (4, .int (i32 (j 4))), (5, .int (i32 v5))], [.int (i32 u0)], (khp (mO m [] []) c, N), 0, 0) _
  refine P_ld 70 (.int (i32 0)) rfl (fun _ => rfl) ?_
  exact dg_tb_same_b103_b104_70 B w c N D bb v0 v1 v2 v3 v5 u0 0 q0 q1 q2 q3 q5 r0 (l32 0 rfl) m hm (jk [(4, j 4)]) Q2 H1 H2
def kfb_tb_same_b103_b104_16 (v0 : Int) (v1 : Int) (v2 : Int) (v3 : Int) (m : mR) (s : Int × Int) : Option (Sum (Int × Int) (Int)) :=
  if (m.2 72) v0 ≤ s.2 then
    some (.inr s.1)
  else
    if cmp64 ((m.2 85) (65536 * v0 + (cut ((cut (v3 * 4)) + s.2)))) ((m.2 103) (65536 * v1 + s.2)) = 0 then
      if cmp64 ((m.2 86) (65536 * v0 + (cut ((cut (v3 * 4)) + s.2)))) ((m.2 104) (65536 * v2 + s.2)) = 0 then
        kfl_tb_same_b103_b104_70 v0 v1 v2 v3 s.2 s.1 1 m
      else
        kfl_tb_same_b103_b104_69 v0 v1 v2 v3 s.2 s.1 m
    else
      kfl_tb_same_b103_b104_69 v0 v1 v2 v3 s.2 s.1 m
theorem dh_tb_same_b103_b104_16 (B : oB) (w : wX) (c : Nat → Option am_C) (N D : Nat) (v0 : Int) (v1 : Int) (v2 : Int) (v3 : Int) (q0 : Rt v0) (q1 : OKo B v1) (q2 : OKo B v2) (q3 : R32 v3) (m : mR) (hm : KCo B m) (bb : Nat) (Q2 : Sum (Int × Int) (Int) → ag_Re af_T → Prop) (H1 : ∀ s j, cs_tb_same_b103_b104_16 B s → PP bb w D pm_189 (hd_tb_same_b103_b104_16 B c N v0 v1 v2 v3 m s j) (Q2 (.inl s))) (H2 : ∀ x j, cx_tb_same_b103_b104_16 B x → PP bb w D pm_189 (ex_tb_same_b103_b104_16 B c N v0 v1 v2 v3 m x j) (Q2 (.inr x))) (s : Int × Int) (j : Nat → Int) (hs : cs_tb_same_b103_b104_16 B s) : PP (bb + 1) w D pm_189 (hd_tb_same_b103_b104_16 B c N v0 v1 v2 v3 m s j) (QS Q2 (kfb_tb_same_b103_b104_16 v0 v1 v2 v3 m s)) := by
  obtain ⟨g4, g5⟩ := hs
  unfold kfb_tb_same_b103_b104_16
  show PP (bb + 1) w D pm_189 (16, [(0, .ref (tbr v0)), (1, .ref (obo B v1 + (3 + 1))), (2, .ref (obo B v2 + (4 + 1))), (3, .int (i32 v3)), (4, .int (i32 s.1)), (5, .int (i32 s.2))], [], (khp (mO m [] []) c, N), 0, 0) _
  refine P1_ld 18 (.int (i32 s.2)) rfl (fun _ => rfl) ?_
  refine P_ld 19 (.ref (tbr v0)) rfl (fun _ => rfl) ?_
  refine PK_gfi 22 72 (m.2 72) rfl rfl q0.1 q0.2 rfl rfl ?_
  refine P_icF 79 25 rfl rfl rfl g5 (kE_i (KCn_a hm.1 72) rfl _) rfl (fun h5 => ?_) (fun h5 => ?_)
  · skip
    refine P_some ?_
    exact H2 s.1 (jk [(5, s.2)]) g4
  · skip
    refine P_ld 27 (.int (i32 s.1)) rfl (fun _ => rfl) ?_
    refine P_ld 28 (.ref (tbr v0)) rfl (fun _ => rfl) ?_
    refine PK_gfr 31 rfl rfl q0.1 q0.2 rfl ?_
    refine P_ld 32 (.int (i32 v3)) rfl (fun _ => rfl) ?_
    refine P_ld 33 (.int (i32 4)) rfl (fun _ => rfl) ?_
    refine P_op 34 (cut (v3 * 4)) _ rfl (fun _ => rfl) o_mul ?_
    refine P_ld 36 (.int (i32 s.2)) rfl (fun _ => rfl) ?_
    refine P_op 37 (cut ((cut (v3 * 4)) + s.2)) _ rfl (fun _ => rfl) o_add ?_
    refine PK_lalt2 38 6 (m.2 85) rfl rfl rfl q0 cut_r rfl ?_
    refine P_ld 39 (.ref (obo B v1 + (3 + 1))) rfl (fun _ => rfl) ?_
    refine P_ld 41 (.int (i32 s.2)) rfl (fun _ => rfl) ?_
    refine PK_lalo2 42 3 (m.2 103) rfl rfl rfl hm rfl rfl q1 g5 rfl ?_
    refine P_op 43 (cmp64 ((m.2 85) (65536 * v0 + (cut ((cut (v3 * 4)) + s.2)))) ((m.2 103) (65536 * v1 + s.2))) _ rfl (fun _ => rfl) (o_cmp (kE_l (KCn_a hm.1 85) rfl _) (kE_l (KCn_a hm.1 103) rfl _)) ?_
    refine P_ifE 69 46 rfl rfl rfl cmp64_r rfl (fun h6 => ?_) (fun h6 => ?_)
    · skip
      refine P_ld 47 (.ref (tbr v0)) rfl (fun _ => rfl) ?_
      refine PK_gfr 50 rfl rfl q0.1 q0.2 rfl ?_
      refine P_ld 51 (.int (i32 v3)) rfl (fun _ => rfl) ?_
      refine P_ld 52 (.int (i32 4)) rfl (fun _ => rfl) ?_
      refine P_op 53 (cut (v3 * 4)) _ rfl (fun _ => rfl) o_mul ?_
      refine P_ld 55 (.int (i32 s.2)) rfl (fun _ => rfl) ?_
      refine P_op 56 (cut ((cut (v3 * 4)) + s.2)) _ rfl (fun _ => rfl) o_add ?_
      refine PK_lalt2 57 7 (m.2 86) rfl rfl rfl q0 cut_r rfl ?_
      refine P_ld 58 (.ref (obo B v2 + (4 + 1))) rfl (fun _ => rfl) ?_
      refine P_ld 60 (.int (i32 s.2)) rfl (fun _ => rfl) ?_
      refine PK_lalo2 61 4 (m.2 104) rfl rfl rfl hm rfl rfl q2 g5 rfl ?_
      refine P_op 62 (cmp64 ((m.2 86) (65536 * v0 + (cut ((cut (v3 * 4)) + s.2)))) ((m.2 104) (65536 * v2 + s.2))) _ rfl (fun _ => rfl) (o_cmp (kE_l (KCn_a hm.1 86) rfl _) (kE_l (KCn_a hm.1 104) rfl _)) ?_
      refine P_ifE 69 65 rfl rfl rfl cmp64_r rfl (fun h7 => ?_) (fun h7 => ?_)
      · skip
        refine P_ld 66 (.int (i32 1)) rfl (fun _ => rfl) ?_
        refine P_goto 70 rfl (fun _ => rfl) ?_
        exact dg_tb_same_b103_b104_70 B w c N D bb v0 v1 v2 v3 s.2 s.1 1 q0 q1 q2 q3 g5 g4 (l32 1 rfl) m hm (jk [(4, s.1)]) Q2 H1 H2
      · skip
        exact dg_tb_same_b103_b104_69 B w c N D bb v0 v1 v2 v3 s.2 s.1 q0 q1 q2 q3 g5 g4 m hm (jk [(4, s.1)]) Q2 H1 H2
    · skip
      exact dg_tb_same_b103_b104_69 B w c N D bb v0 v1 v2 v3 s.2 s.1 q0 q1 q2 q3 g5 g4 m hm (jk [(4, s.1)]) Q2 H1 H2
def kfb_tb_same_b103_b104_2 (v0 : Int) (v1 : Int) (v2 : Int) (m : mR) (s : Int) : Option (Sum (Int) (Sum (Int) (Unit))) :=
  if (m.2 78) v0 ≤ s then
    some (.inr (.inr ()))
  else
    bnd (whl (kfb_tb_same_b103_b104_16 v0 v1 v2 s m) (1, 0)) (fun e10 : Int =>
      kfl_tb_same_b103_b104_79 v0 v1 v2 s e10 m)
theorem dh_tb_same_b103_b104_2 (B : oB) (w : wX) (c : Nat → Option am_C) (N D : Nat) (v0 : Int) (v1 : Int) (v2 : Int) (q0 : Rt v0) (q1 : OKo B v1) (q2 : OKo B v2) (m : mR) (hm : KCo B m) (bb : Nat) (Q2 : Sum (Int) (Sum (Int) (Unit)) → ag_Re af_T → Prop) (H1 : ∀ s j, cs_tb_same_b103_b104_2 B s → PP bb w D pm_189 (hd_tb_same_b103_b104_2 B c N v0 v1 v2 m s j) (Q2 (.inl s))) (H2 : ∀ x j, cx_tb_same_b103_b104_2 B x → PP bb w D pm_189 (ex_tb_same_b103_b104_2 B c N v0 v1 v2 m x j) (Q2 (.inr x))) (s : Int) (j : Nat → Int) (hs : cs_tb_same_b103_b104_2 B s) : PP (bb + 1) w D pm_189 (hd_tb_same_b103_b104_2 B c N v0 v1 v2 m s j) (QS Q2 (kfb_tb_same_b103_b104_2 v0 v1 v2 m s)) := by
  have g3 := hs
  unfold kfb_tb_same_b103_b104_2
  show PP (bb + 1) w D pm_189 (2, [(0, .ref (tbr v0)), (1, .ref (obo B v1 + (3 + 1))), (2, .ref (obo B v2 + (4 + 1))), (3, .int (i32 s)), (4, .int (i32 (j 4))), (5, .int (i32 (j 5)))], [], (khp (mO m [] []) c, N), 0, 0) _
  refine P1_ld 3 (.int (i32 s)) rfl (fun _ => rfl) ?_
  refine P_ld 4 (.ref (tbr v0)) rfl (fun _ => rfl) ?_
  refine PK_gfi 7 78 (m.2 78) rfl rfl q0.1 q0.2 rfl rfl ?_
  refine P_icF 92 10 rfl rfl rfl g3 (kE_i (KCn_a hm.1 78) rfl _) rfl (fun h9 => ?_) (fun h9 => ?_)
  · skip
    refine P_some ?_
    exact H2 (.inr ()) (jk [(0, v0), (1, v1), (2, v2), (3, s), (4, j 4), (5, j 5)]) trivial
  · skip
    refine P_ld 11 (.int (i32 1)) rfl (fun _ => rfl) ?_
    refine P_sto 13 [(4, .int (i32 1)), (0, .ref (tbr v0)), (1, .ref (obo B v1 + (3 + 1))), (2, .ref (obo B v2 + (4 + 1))), (3, .int (i32 s)), (5, .int (i32 (j 5)))] rfl (fun _ => rfl) ?_
    refine P_ld 14 (.int (i32 0)) rfl (fun _ => rfl) ?_
    refine P_sto 16 [(5, .int (i32 0)), (4, .int (i32 1)), (0, .ref (tbr v0)), (1, .ref (obo B v1 + (3 + 1))), (2, .ref (obo B v2 + (4 + 1))), (3, .int (i32 s))] rfl (fun _ => rfl) ?_
    refine P_lv (b := [(0, .ref (tbr v0)), (1, .ref (obo B v1 + (3 + 1))), (2, .ref (obo B v2 + (4 + 1))), (3, .int (i32 s)), (4, .int (i32 1)), (5, .int (i32 0))]) rfl rfl ⟨rfl, rfl, rfl, rfl, rfl, rfl, trivial⟩ ?_
    refine P_bnd ?_
    refine P_whl (fun bb Q2 H1 H2 s9 j9 hs9 => dh_tb_same_b103_b104_16 B w c N D v0 v1 v2 s q0 q1 q2 g3 m hm bb Q2 H1 H2 s9 j9 hs9) bb (fun e10 j q11 => ?_) (1, 0) (jk []) ⟨(l32 1 rfl), (l32 0 rfl)⟩
    have q12 := q11
    show PP bb w D pm_189 (79, [(0, .ref (tbr v0)), (1, .ref (obo B v1 + (3 + 1))), (2, .ref (obo B v2 + (4 + 1))), (3, .int (i32 s)), (4, .int (i32 e10)), (5, .int (i32 (j 5)))], [], (khp (mO m [] []) c, N), 0, 0) (QS _ (kfl_tb_same_b103_b104_79 v0 v1 v2 s e10 m))
    exact dg_tb_same_b103_b104_79 B w c N D bb v0 v1 v2 s e10 q0 q1 q2 g3 q12 m hm (jk [(5, j 5)]) Q2 H1 H2
def kf_tb_same_b103_b104 (v0 : Int) (v1 : Int) (v2 : Int) (m : mR) : Option Int :=
  bnd (whl (kfb_tb_same_b103_b104_2 v0 v1 v2 m) 0) (sel
    (fun e13 : Int =>
      some e13)
    (fun e16 : Unit =>
      some (-1)))
theorem D_tb_same_b103_b104 (B : oB) (w : wX) (m : mR) (c : Nat → Option am_C) (N D : Nat) (hm : KCo B m) (v0 : Int) (v1 : Int) (v2 : Int) (q0 : Rt v0) (q1 : OKo B v1) (q2 : OKo B v2) : PC w D 189 [.ref (tbr v0), .ref (obo B v1 + (3 + 1)), .ref (obo B v2 + (4 + 1))] (khp m c, N) (QS (FP1 (khp m c, N)) (kf_tb_same_b103_b104 v0 v1 v2 m)) := by
  refine Pc_of (fun D bb => ?_) D
  unfold kf_tb_same_b103_b104
  show PP bb w D pm_189 (0, [(0, .ref (tbr v0)), (1, .ref (obo B v1 + (3 + 1))), (2, .ref (obo B v2 + (4 + 1)))], [], (khp (mO m [] []) c, N), 0, 0) _
  refine P_ld 1 (.int (i32 0)) rfl (fun _ => rfl) ?_
  refine P_sto 2 [(3, .int (i32 0)), (0, .ref (tbr v0)), (1, .ref (obo B v1 + (3 + 1))), (2, .ref (obo B v2 + (4 + 1)))] rfl (fun _ => rfl) ?_
  refine P_lv (b := [(0, .ref (tbr v0)), (1, .ref (obo B v1 + (3 + 1))), (2, .ref (obo B v2 + (4 + 1))), (3, .int (i32 0)), (4, .int (i32 0)), (5, .int (i32 0))]) rfl rfl ⟨rfl, rfl, rfl, rfl, trivial⟩ ?_
  refine P_bnd ?_
  refine P_whl (fun bb Q2 H1 H2 s9 j9 hs9 => dh_tb_same_b103_b104_2 B w c N D v0 v1 v2 q0 q1 q2 m hm bb Q2 H1 H2 s9 j9 hs9) bb (fun x0 j hx0 => ?_) 0 (jk []) (l32 0 rfl)
  cases x0 with
  | inl e13 =>
    have q14 := hx0
    have q15 := q14
    show PP bb w D pm_189 (84, [(0, .ref (tbr (j 0))), (1, .ref (obo B (j 1) + (3 + 1))), (2, .ref (obo B (j 2) + (4 + 1))), (3, .int (i32 e13)), (4, .int (i32 (j 4))), (5, .int (i32 (j 5)))], [], (khp (mO m [] []) c, N), 0, 0) (QS _ (some e13))
    refine P_ld 85 (.int (i32 e13)) rfl (fun _ => rfl) ?_
    exact P_rp1 rfl q15
  | inr e16 =>
    have q17 := hx0
    show PP bb w D pm_189 (92, [(0, .ref (tbr (j 0))), (1, .ref (obo B (j 1) + (3 + 1))), (2, .ref (obo B (j 2) + (4 + 1))), (3, .int (i32 (j 3))), (4, .int (i32 (j 4))), (5, .int (i32 (j 5)))], [], (khp (mO m [] []) c, N), 0, 0) (QS _ (some (-1)))
    refine P_ld 93 (.int (i32 (-1))) rfl (fun _ => rfl) ?_
    exact P_rp1 rfl (l32 (-1) rfl)
def cs_Arrays_fill0_b90_5 (B : oB) (s : Int × mR) : Prop := R32 s.1 ∧ KCo B s.2
def cx_Arrays_fill0_b90_5 (B : oB) : (mR) → Prop := (fun (e : mR) => KCo B e)
def hd_Arrays_fill0_b90_5 (B : oB) (c : Nat → Option am_C) (N : Nat) (v0 : Int) (v1 : Int) (v3 : Int) (s : Int × mR) (j : Nat → Int) : ag_St af_T := (5, [(0, .ref (tbr v0 + (11 + 1))), (1, .int (i32 v1)), (2, .int (i32 s.1)), (3, .int (i32 v3))], [], (khp s.2 c, N), 0, 0)
def ex_Arrays_fill0_b90_5 (B : oB) (c : Nat → Option am_C) (N : Nat) (v0 : Int) (v1 : Int) (v3 : Int) : (mR) → (Nat → Int) → ag_St af_T := (fun (e : mR) (j : Nat → Int) => ((20, [(0, .ref (tbr (j 0) + (11 + 1))), (1, .int (i32 (j 1))), (2, .int (i32 (j 2))), (3, .int (i32 (j 3)))], [], (khp e c, N), 0, 0) : ag_St af_T))
def kfb_Arrays_fill0_b90_5 (v0 : Int) (v1 : Int) (v3 : Int) (s : Int × mR) : Option (Sum (Int × mR) (mR)) :=
  if v3 ≤ s.1 then
    some (.inr s.2)
  else
    some (.inl (cut (s.1 + 1), (mO s.2 [] [(90, upI (s.2.2 90) (65536 * v0 + s.1) v1)])))
theorem dh_Arrays_fill0_b90_5 (B : oB) (w : wX) (c : Nat → Option am_C) (N D : Nat) (v0 : Int) (v1 : Int) (v3 : Int) (q0 : Rt v0) (q1 : R32 v1) (q3 : R32 v3) (bb : Nat) (Q2 : Sum (Int × mR) (mR) → ag_Re af_T → Prop) (H1 : ∀ s j, cs_Arrays_fill0_b90_5 B s → PP bb w D pm_25 (hd_Arrays_fill0_b90_5 B c N v0 v1 v3 s j) (Q2 (.inl s))) (H2 : ∀ x j, cx_Arrays_fill0_b90_5 B x → PP bb w D pm_25 (ex_Arrays_fill0_b90_5 B c N v0 v1 v3 x j) (Q2 (.inr x))) (s : Int × mR) (j : Nat → Int) (hs : cs_Arrays_fill0_b90_5 B s) : PP (bb + 1) w D pm_25 (hd_Arrays_fill0_b90_5 B c N v0 v1 v3 s j) (QS Q2 (kfb_Arrays_fill0_b90_5 v0 v1 v3 s)) := by
  obtain ⟨g2, gm⟩ := hs
  unfold kfb_Arrays_fill0_b90_5
  show PP (bb + 1) w D pm_25 (5, [(0, .ref (tbr v0 + (11 + 1))), (1, .int (i32 v1)), (2, .int (i32 s.1)), (3, .int (i32 v3))], [], (khp (mO s.2 [] []) c, N), 0, 0) _
  refine P1_ld 6 (.int (i32 s.1)) rfl (fun _ => rfl) ?_
  refine P_ld 7 (.int (i32 v3)) rfl (fun _ => rfl) ?_
  refine P_icF 20 10 rfl rfl rfl g2 q3 rfl (fun h3 => ?_) (fun h3 => ?_)
  · skip
    refine P_some ?_
    exact H2 s.2 (jk [(0, v0), (1, v1), (2, s.1), (3, v3)]) gm
  · skip
    refine P_ld 11 (.ref (tbr v0 + (11 + 1))) rfl (fun _ => rfl) ?_
    refine P_ld 12 (.int (i32 s.1)) rfl (fun _ => rfl) ?_
    refine P_ld 13 (.int (i32 v1)) rfl (fun _ => rfl) ?_
    refine PK_iastt2 (a' := [(90, upI (s.2.2 90) (65536 * v0 + s.1) v1)]) 14 11 (s.2.2 90) rfl rfl rfl q0 g2 rfl rfl ?_
    refine P_inc 17 [(2, .int (i32 (cut (s.1 + 1)))), (0, .ref (tbr v0 + (11 + 1))), (1, .int (i32 v1)), (3, .int (i32 v3))] rfl rfl (by decide) rfl rfl ?_
    refine P_goto 5 rfl (fun _ => rfl) ?_
    refine P_some ?_
    refine P_lv (b := [(0, .ref (tbr v0 + (11 + 1))), (1, .int (i32 v1)), (2, .int (i32 (cut (s.1 + 1)))), (3, .int (i32 v3))]) rfl rfl ⟨rfl, rfl, rfl, rfl, trivial⟩ ?_
    exact H1 (cut (s.1 + 1), (mO s.2 [] [(90, upI (s.2.2 90) (65536 * v0 + s.1) v1)])) (jk []) ⟨cut_r, (KCo_mO gm rfl rfl (KC6 gm rfl) trivial ⟨(kE_ui (KCn_a gm.1 90) rfl q1), trivial⟩)⟩
def kf_Arrays_fill0_b90 (v0 : Int) (v1 : Int) (m : mR) : Option (Int × mR) :=
  bnd (whl (kfb_Arrays_fill0_b90_5 v0 v1 16) (0, m)) (fun e4 : mR =>
    some (0, e4))
theorem D_Arrays_fill0_b90 (B : oB) (w : wX) (m : mR) (c : Nat → Option am_C) (N D : Nat) (hm : KCo B m) (v0 : Int) (v1 : Int) (q0 : Rt v0) (q1 : R32 v1) : PC w D 25 [.ref (tbr v0 + (11 + 1)), .int (i32 v1)] (khp m c, N) (QS (FO0 B c N) (kf_Arrays_fill0_b90 v0 v1 m)) := by
  refine Pc_of (fun D bb => ?_) D
  unfold kf_Arrays_fill0_b90
  show PP bb w D pm_25 (0, [(0, .ref (tbr v0 + (11 + 1))), (1, .int (i32 v1))], [], (khp (mO m [] []) c, N), 0, 0) _
  refine P_ld 1 (.int (i32 0)) rfl (fun _ => rfl) ?_
  refine P_sto 2 [(2, .int (i32 0)), (0, .ref (tbr v0 + (11 + 1))), (1, .int (i32 v1))] rfl (fun _ => rfl) ?_
  refine P_ld 3 (.ref (tbr v0 + (11 + 1))) rfl (fun _ => rfl) ?_
  refine PK_alent 4 11 (L := 16) rfl rfl q0.1 q0.2 rfl rfl ?_
  refine P_sto 5 [(3, .int (i32 16)), (2, .int (i32 0)), (0, .ref (tbr v0 + (11 + 1))), (1, .int (i32 v1))] rfl (fun _ => rfl) ?_
  refine P_lv (b := [(0, .ref (tbr v0 + (11 + 1))), (1, .int (i32 v1)), (2, .int (i32 0)), (3, .int (i32 16))]) rfl rfl ⟨rfl, rfl, rfl, rfl, trivial⟩ ?_
  refine P_bnd ?_
  refine P_whl (fun bb Q2 H1 H2 s9 j9 hs9 => dh_Arrays_fill0_b90_5 B w c N D v0 v1 16 q0 q1 (l32 16 rfl) bb Q2 H1 H2 s9 j9 hs9) bb (fun e4 j q5 => ?_) (0, m) (jk []) ⟨(l32 0 rfl), hm⟩
  have q6 := q5
  show PP bb w D pm_25 (20, [(0, .ref (tbr (j 0) + (11 + 1))), (1, .int (i32 (j 1))), (2, .int (i32 (j 2))), (3, .int (i32 (j 3)))], [], (khp (mO e4 [] []) c, N), 0, 0) (QS _ (some (0, e4)))
  exact P_ro0 rfl rfl q6
def cs_tb_bucketOf_5 (B : oB) (s : Int × Int) : Prop := R64 s.1 ∧ R32 s.2
def cx_tb_bucketOf_5 (B : oB) : (Int) → Prop := (fun (e : Int) => R64 e)
def hd_tb_bucketOf_5 (B : oB) (c : Nat → Option am_C) (N : Nat) (v0 : Int) (v1 : Int) (m : mR) (s : Int × Int) (j : Nat → Int) : ag_St af_T := (5, [(0, .ref (tbr v0)), (1, .int (i32 v1)), (2, .long (i64 s.1)), (4, .int (i32 s.2)), (5, .long (i64 (j 5)))], [], (khp m c, N), 0, 0)
def ex_tb_bucketOf_5 (B : oB) (c : Nat → Option am_C) (N : Nat) (v0 : Int) (v1 : Int) (m : mR) : (Int) → (Nat → Int) → ag_St af_T := (fun (e : Int) (j : Nat → Int) => ((54, [(0, .ref (tbr v0)), (1, .int (i32 (j 1))), (2, .long (i64 e)), (4, .int (i32 (j 4))), (5, .long (i64 (j 5)))], [], (khp m c, N), 0, 0) : ag_St af_T))
def kfl_tb_bucketOf_54 (v0 : Int) (v2 : Int) (m : mR) : Option Int :=
  some (and32 (and32 (cut (xor64 (xor64 v2 (ushr64 v2 20)) (ushr64 v2 7))) (cut (((m.2 75) v0) - 1))) 15)
theorem dg_tb_bucketOf_54 (B : oB) (w : wX) (c : Nat → Option am_C) (N D : Nat) (bb : Nat) (v0 : Int) (v2 : Int) (q0 : Rt v0) (q2 : R64 v2) (m : mR) (hm : KCo B m) (j : Nat → Int) : PP bb w D pm_193 (54, [(0, .ref (tbr v0)), (1, .int (i32 (j 1))), (2, .long (i64 v2)), (4, .int (i32 (j 4))), (5, .long (i64 (j 5)))], [], (khp m c, N), 0, 0) (QS (FP1 (khp m c, N)) (kfl_tb_bucketOf_54 v0 v2 m)) := by
  unfold kfl_tb_bucketOf_54
  show PP bb w D pm_193 (54, [(0, .ref (tbr v0)), (1, .int (i32 (j 1))), (2, .long (i64 v2)), (4, .int (i32 (j 4))), (5, .long (i64 (j 5)))], [], (khp (mO m [] []) c, N), 0, 0) _
  refine P_ld 55 (.long (i64 v2)) rfl (fun _ => rfl) ?_
  refine P_ld 56 (.long (i64 v2)) rfl (fun _ => rfl) ?_
  refine P_ld 58 (.int (i32 20)) rfl (fun _ => rfl) ?_
  refine P_opl 59 (ushr64 v2 20) _ rfl (fun _ => rfl) (Int64.ofInt_toInt _).symm ?_
  refine P_opl 60 (xor64 v2 (ushr64 v2 20)) _ rfl (fun _ => rfl) (Int64.ofInt_toInt _).symm ?_
  refine P_ld 61 (.long (i64 v2)) rfl (fun _ => rfl) ?_
  refine P_ld 63 (.int (i32 7)) rfl (fun _ => rfl) ?_
  refine P_opl 64 (ushr64 v2 7) _ rfl (fun _ => rfl) (Int64.ofInt_toInt _).symm ?_
  refine P_opl 65 (xor64 (xor64 v2 (ushr64 v2 20)) (ushr64 v2 7)) _ rfl (fun _ => rfl) (Int64.ofInt_toInt _).symm ?_
  refine P_op 66 (cut (xor64 (xor64 v2 (ushr64 v2 20)) (ushr64 v2 7))) _ rfl (fun _ => rfl) o_l2i ?_
  refine P_ld 67 (.ref (tbr v0)) rfl (fun _ => rfl) ?_
  refine PK_gfi 70 75 (m.2 75) rfl rfl q0.1 q0.2 rfl rfl ?_
  refine P_ld 71 (.int (i32 1)) rfl (fun _ => rfl) ?_
  refine P_op 72 (cut (((m.2 75) v0) - 1)) _ rfl (fun _ => rfl) o_sub ?_
  refine P_op 73 (and32 (cut (xor64 (xor64 v2 (ushr64 v2 20)) (ushr64 v2 7))) (cut (((m.2 75) v0) - 1))) _ rfl (fun _ => rfl) (i32_of _).symm ?_
  refine P_ld 75 (.int (i32 15)) rfl (fun _ => rfl) ?_
  refine P_op 76 (and32 (and32 (cut (xor64 (xor64 v2 (ushr64 v2 20)) (ushr64 v2 7))) (cut (((m.2 75) v0) - 1))) 15) _ rfl (fun _ => rfl) (i32_of _).symm ?_
  exact P_rp1 rfl t32_r
def kfb_tb_bucketOf_5 (v0 : Int) (v1 : Int) (m : mR) (s : Int × Int) : Option (Sum (Int × Int) (Int)) :=
  if (m.2 72) v0 ≤ s.2 then
    some (.inr s.1)
  else
    some (.inl (cutl ((cutl (31 * s.1)) + (xor64 (xor64 ((m.2 85) (65536 * v0 + (cut ((cut (v1 * 4)) + s.2)))) (ushr64 ((m.2 85) (65536 * v0 + (cut ((cut (v1 * 4)) + s.2)))) 32)) (ushr64 ((m.2 85) (65536 * v0 + (cut ((cut (v1 * 4)) + s.2)))) 17))), cut (s.2 + 1)))
theorem dh_tb_bucketOf_5 (B : oB) (w : wX) (c : Nat → Option am_C) (N D : Nat) (v0 : Int) (v1 : Int) (q0 : Rt v0) (q1 : R32 v1) (m : mR) (hm : KCo B m) (bb : Nat) (Q2 : Sum (Int × Int) (Int) → ag_Re af_T → Prop) (H1 : ∀ s j, cs_tb_bucketOf_5 B s → PP bb w D pm_193 (hd_tb_bucketOf_5 B c N v0 v1 m s j) (Q2 (.inl s))) (H2 : ∀ x j, cx_tb_bucketOf_5 B x → PP bb w D pm_193 (ex_tb_bucketOf_5 B c N v0 v1 m x j) (Q2 (.inr x))) (s : Int × Int) (j : Nat → Int) (hs : cs_tb_bucketOf_5 B s) : PP (bb + 1) w D pm_193 (hd_tb_bucketOf_5 B c N v0 v1 m s j) (QS Q2 (kfb_tb_bucketOf_5 v0 v1 m s)) := by
  obtain ⟨g2, g4⟩ := hs
  unfold kfb_tb_bucketOf_5
  show PP (bb + 1) w D pm_193 (5, [(0, .ref (tbr v0)), (1, .int (i32 v1)), (2, .long (i64 s.1)), (4, .int (i32 s.2)), (5, .long (i64 (j 5)))], [], (khp (mO m [] []) c, N), 0, 0) _
  refine P1_ld 7 (.int (i32 s.2)) rfl (fun _ => rfl) ?_
  refine P_ld 8 (.ref (tbr v0)) rfl (fun _ => rfl) ?_
  refine PK_gfi 11 72 (m.2 72) rfl rfl q0.1 q0.2 rfl rfl ?_
  refine P_icF 54 14 rfl rfl rfl g4 (kE_i (KCn_a hm.1 72) rfl _) rfl (fun h3 => ?_) (fun h3 => ?_)
  · skip
    refine P_some ?_
    exact H2 s.1 (jk [(1, v1), (4, s.2), (5, j 5)]) g2
  · skip
    refine P_ld 15 (.ref (tbr v0)) rfl (fun _ => rfl) ?_
    refine PK_gfr 18 rfl rfl q0.1 q0.2 rfl ?_
    refine P_ld 19 (.int (i32 v1)) rfl (fun _ => rfl) ?_
    refine P_ld 20 (.int (i32 4)) rfl (fun _ => rfl) ?_
    refine P_op 21 (cut (v1 * 4)) _ rfl (fun _ => rfl) o_mul ?_
    refine P_ld 23 (.int (i32 s.2)) rfl (fun _ => rfl) ?_
    refine P_op 24 (cut ((cut (v1 * 4)) + s.2)) _ rfl (fun _ => rfl) o_add ?_
    refine PK_lalt2 25 6 (m.2 85) rfl rfl rfl q0 cut_r rfl ?_
    refine P_sto 27 [(5, .long (i64 ((m.2 85) (65536 * v0 + (cut ((cut (v1 * 4)) + s.2)))))), (0, .ref (tbr v0)), (1, .int (i32 v1)), (2, .long (i64 s.1)), (4, .int (i32 s.2))] rfl (fun _ => rfl) ?_
    refine P_ld 30 (.long (i64 31)) rfl (fun _ => rfl) ?_
    refine P_ld 31 (.long (i64 s.1)) rfl (fun _ => rfl) ?_
    refine P_opl 32 (cutl (31 * s.1)) _ rfl (fun _ => rfl) p_mul ?_
    refine P_ld 34 (.long (i64 ((m.2 85) (65536 * v0 + (cut ((cut (v1 * 4)) + s.2)))))) rfl (fun _ => rfl) ?_
    refine P_ld 36 (.long (i64 ((m.2 85) (65536 * v0 + (cut ((cut (v1 * 4)) + s.2)))))) rfl (fun _ => rfl) ?_
    refine P_ld 38 (.int (i32 32)) rfl (fun _ => rfl) ?_
    refine P_opl 39 (ushr64 ((m.2 85) (65536 * v0 + (cut ((cut (v1 * 4)) + s.2)))) 32) _ rfl (fun _ => rfl) (Int64.ofInt_toInt _).symm ?_
    refine P_opl 40 (xor64 ((m.2 85) (65536 * v0 + (cut ((cut (v1 * 4)) + s.2)))) (ushr64 ((m.2 85) (65536 * v0 + (cut ((cut (v1 * 4)) + s.2)))) 32)) _ rfl (fun _ => rfl) (Int64.ofInt_toInt _).symm ?_
    refine P_ld 42 (.long (i64 ((m.2 85) (65536 * v0 + (cut ((cut (v1 * 4)) + s.2)))))) rfl (fun _ => rfl) ?_
    refine P_ld 44 (.int (i32 17)) rfl (fun _ => rfl) ?_
    refine P_opl 45 (ushr64 ((m.2 85) (65536 * v0 + (cut ((cut (v1 * 4)) + s.2)))) 17) _ rfl (fun _ => rfl) (Int64.ofInt_toInt _).symm ?_
    refine P_opl 46 (xor64 (xor64 ((m.2 85) (65536 * v0 + (cut ((cut (v1 * 4)) + s.2)))) (ushr64 ((m.2 85) (65536 * v0 + (cut ((cut (v1 * 4)) + s.2)))) 32)) (ushr64 ((m.2 85) (65536 * v0 + (cut ((cut (v1 * 4)) + s.2)))) 17)) _ rfl (fun _ => rfl) (Int64.ofInt_toInt _).symm ?_
    refine P_opl 47 (cutl ((cutl (31 * s.1)) + (xor64 (xor64 ((m.2 85) (65536 * v0 + (cut ((cut (v1 * 4)) + s.2)))) (ushr64 ((m.2 85) (65536 * v0 + (cut ((cut (v1 * 4)) + s.2)))) 32)) (ushr64 ((m.2 85) (65536 * v0 + (cut ((cut (v1 * 4)) + s.2)))) 17)))) _ rfl (fun _ => rfl) p_add ?_
    refine P_sto 48 [(2, .long (i64 (cutl ((cutl (31 * s.1)) + (xor64 (xor64 ((m.2 85) (65536 * v0 + (cut ((cut (v1 * 4)) + s.2)))) (ushr64 ((m.2 85) (65536 * v0 + (cut ((cut (v1 * 4)) + s.2)))) 32)) (ushr64 ((m.2 85) (65536 * v0 + (cut ((cut (v1 * 4)) + s.2)))) 17)))))), (5, .long (i64 ((m.2 85) (65536 * v0 + (cut ((cut (v1 * 4)) + s.2)))))), (0, .ref (tbr v0)), (1, .int (i32 v1)), (4, .int (i32 s.2))] rfl (fun _ => rfl) ?_
    refine P_inc 51 [(4, .int (i32 (cut (s.2 + 1)))), (2, .long (i64 (cutl ((cutl (31 * s.1)) + (xor64 (xor64 ((m.2 85) (65536 * v0 + (cut ((cut (v1 * 4)) + s.2)))) (ushr64 ((m.2 85) (65536 * v0 + (cut ((cut (v1 * 4)) + s.2)))) 32)) (ushr64 ((m.2 85) (65536 * v0 + (cut ((cut (v1 * 4)) + s.2)))) 17)))))), (5, .long (i64 ((m.2 85) (65536 * v0 + (cut ((cut (v1 * 4)) + s.2)))))), (0, .ref (tbr v0)), (1, .int (i32 v1))] rfl rfl (by decide) rfl rfl ?_
    refine P_goto 5 rfl (fun _ => rfl) ?_
    refine P_some ?_
    refine P_lv (b := [(0, .ref (tbr v0)), (1, .int (i32 v1)), (2, .long (i64 (cutl ((cutl (31 * s.1)) + (xor64 (xor64 ((m.2 85) (65536 * v0 + (cut ((cut (v1 * 4)) + s.2)))) (ushr64 ((m.2 85) (65536 * v0 + (cut ((cut (v1 * 4)) + s.2)))) 32)) (ushr64 ((m.2 85) (65536 * v0 + (cut ((cut (v1 * 4)) + s.2)))) 17)))))), (4, .int (i32 (cut (s.2 + 1)))), (5, .long (i64 ((m.2 85) (65536 * v0 + (cut ((cut (v1 * 4)) + s.2))))))]) rfl rfl ⟨rfl, rfl, rfl, rfl, rfl, trivial⟩ ?_
    exact H1 (cutl ((cutl (31 * s.1)) + (xor64 (xor64 ((m.2 85) (65536 * v0 + (cut ((cut (v1 * 4)) + s.2)))) (ushr64 ((m.2 85) (65536 * v0 + (cut ((cut (v1 * 4)) + s.2)))) 32)) (ushr64 ((m.2 85) (65536 * v0 + (cut ((cut (v1 * 4)) + s.2)))) 17))), cut (s.2 + 1)) (jk [(5, (m.2 85) (65536 * v0 + (cut ((cut (v1 * 4)) + s.2))))]) ⟨cutl_r, cut_r⟩
def kf_tb_bucketOf (v0 : Int) (v1 : Int) (m : mR) : Option Int :=
  bnd (whl (kfb_tb_bucketOf_5 v0 v1 m) (0, 0)) (fun e4 : Int =>
    kfl_tb_bucketOf_54 v0 e4 m)
theorem D_tb_bucketOf (B : oB) (w : wX) (m : mR) (c : Nat → Option am_C) (N D : Nat) (hm : KCo B m) (v0 : Int) (v1 : Int) (q0 : Rt v0) (q1 : R32 v1) : PC w D 193 [.ref (tbr v0), .int (i32 v1)] (khp m c, N) (QS (FP1 (khp m c, N)) (kf_tb_bucketOf v0 v1 m)) := by
  refine Pc_of (fun D bb => ?_) D
  unfold kf_tb_bucketOf
  show PP bb w D pm_193 (0, [(0, .ref (tbr v0)), (1, .int (i32 v1))], [], (khp (mO m [] []) c, N), 0, 0) _
  refine P_ld 1 (.long (i64 0)) rfl (fun _ => rfl) ?_
  refine P_sto 2 [(2, .long (i64 0)), (0, .ref (tbr v0)), (1, .int (i32 v1))] rfl (fun _ => rfl) ?_
  refine P_ld 3 (.int (i32 0)) rfl (fun _ => rfl) ?_
  refine P_sto 5 [(4, .int (i32 0)), (2, .long (i64 0)), (0, .ref (tbr v0)), (1, .int (i32 v1))] rfl (fun _ => rfl) ?_
  refine P_lv (b := [(0, .ref (tbr v0)), (1, .int (i32 v1)), (2, .long (i64 0)), (4, .int (i32 0)), (5, .long (i64 0))]) rfl rfl ⟨rfl, rfl, rfl, rfl, trivial⟩ ?_
  refine P_bnd ?_
  refine P_whl (fun bb Q2 H1 H2 s9 j9 hs9 => dh_tb_bucketOf_5 B w c N D v0 v1 q0 q1 m hm bb Q2 H1 H2 s9 j9 hs9) bb (fun e4 j q5 => ?_) (0, 0) (jk []) ⟨(l64 0 rfl), (l32 0 rfl)⟩
  have q6 := q5
  show PP bb w D pm_193 (54, [(0, .ref (tbr v0)), (1, .int (i32 (j 1))), (2, .long (i64 e4)), (4, .int (i32 (j 4))), (5, .long (i64 (j 5)))], [], (khp (mO m [] []) c, N), 0, 0) (QS _ (kfl_tb_bucketOf_54 v0 e4 m))
  exact dg_tb_bucketOf_54 B w c N D bb v0 e4 q0 q6 m hm (jk [(1, j 1), (4, j 4), (5, j 5)])
def cs_tb_above_21 (B : oB) (s : Int × Int × mR) : Prop := R32 s.1 ∧ R32 s.2.1 ∧ KCo B s.2.2
def cx_tb_above_21 (B : oB) : (Int × mR) → Prop := (fun (e : Int × mR) => R32 e.1 ∧ KCo B e.2)
def hd_tb_above_21 (B : oB) (c : Nat → Option am_C) (N : Nat) (v0 : Int) (v1 : Int) (s : Int × Int × mR) (j : Nat → Int) : ag_St af_T := (21, [(0, .ref (tbr v0)), (1, .int (i32 v1)), (2, .int (i32 s.1)), (3, .int (i32 s.2.1)), (4, .int (i32 (j 4)))], [], (khp s.2.2 c, N), 0, 0)
def ex_tb_above_21 (B : oB) (c : Nat → Option am_C) (N : Nat) (v0 : Int) (v1 : Int) : (Int × mR) → (Nat → Int) → ag_St af_T := (fun (e : Int × mR) (j : Nat → Int) => ((72, [(0, .ref (tbr (j 0))), (1, .int (i32 (j 1))), (2, .int (i32 e.1)), (3, .int (i32 (j 3))), (4, .int (i32 (j 4)))], [], (khp e.2 c, N), 0, 0) : ag_St af_T))
def kfl_tb_above_64 (v0 : Int) (v1 : Int) (v3 : Int) (u0 : Int) (u1 : Int) (m : mR) : Option (Sum (Int × Int × mR) (Int × mR)) :=
  some (.inl (cut (u0 + u1), cut (v3 + 1), m))
theorem dg_tb_above_64 (B : oB) (w : wX) (c : Nat → Option am_C) (N D : Nat) (bb : Nat) (v0 : Int) (v1 : Int) (v3 : Int) (u0 : Int) (u1 : Int) (q0 : Rt v0) (q1 : R32 v1) (q3 : R32 v3) (r0 : R32 u0) (r1 : R32 u1) (m : mR) (hm : KCo B m) (j : Nat → Int) (Q2 : Sum (Int × Int × mR) (Int × mR) → ag_Re af_T → Prop) (H1 : ∀ s j, cs_tb_above_21 B s → PP bb w D pm_192 (hd_tb_above_21 B c N v0 v1 s j) (Q2 (.inl s))) (H2 : ∀ x j, cx_tb_above_21 B x → PP bb w D pm_192 (ex_tb_above_21 B c N v0 v1 x j) (Q2 (.inr x))) : PP bb w D pm_192 (64, [(0, .ref (tbr v0)), (1, .int (i32 v1)), (2, .int (i32 (j 2))), (3, .int (i32 v3)), (4, .int (i32 (j 4)))], [.int (i32 u1), .int (i32 u0)], (khp m c, N), 0, 0) (QS Q2 (kfl_tb_above_64 v0 v1 v3 u0 u1 m)) := by
  unfold kfl_tb_above_64
  show PP bb w D pm_192 (64, [(0, .ref (tbr v0)), (1, .int (i32 v1)), (2, .int (i32 (j 2))), (3, .int (i32 v3)), (4, .int (i32 (j 4)))], [.int (i32 u1), .int (i32 u0)], (khp (mO m [] []) c, N), 0, 0) _
  refine P_op 65 (cut (u0 + u1)) _ rfl (fun _ => rfl) o_add ?_
  refine P_sto 66 [(2, .int (i32 (cut (u0 + u1)))), (0, .ref (tbr v0)), (1, .int (i32 v1)), (3, .int (i32 v3)), (4, .int (i32 (j 4)))] rfl (fun _ => rfl) ?_
  refine P_inc 69 [(3, .int (i32 (cut (v3 + 1)))), (2, .int (i32 (cut (u0 + u1)))), (0, .ref (tbr v0)), (1, .int (i32 v1)), (4, .int (i32 (j 4)))] rfl rfl (by decide) rfl rfl ?_
  refine P_goto 21 rfl (fun _ => rfl) ?_
  refine P_some ?_
  refine P_lv (b := [(0, .ref (tbr v0)), (1, .int (i32 v1)), (2, .int (i32 (cut (u0 + u1)))), (3, .int (i32 (cut (v3 + 1)))), (4, .int (i32 (j 4)))]) rfl rfl ⟨rfl, rfl, rfl, rfl, rfl, trivial⟩ ?_
  exact H1 (cut (u0 + u1), cut (v3 + 1), m) (jk [(4, j 4)]) ⟨cut_r, cut_r, hm⟩
def kfb_tb_above_21 (v0 : Int) (v1 : Int) (s : Int × Int × mR) : Option (Sum (Int × Int × mR) (Int × mR)) :=
  if v1 ≤ s.2.1 then
    some (.inr (s.1, s.2.2))
  else
    bnd (kf_tb_bucketOf v0 s.2.1 s.2.2) fun y6 =>
    if (upI (s.2.2.2 90) (65536 * v0 + y6) (cut (((s.2.2.2 90) (65536 * v0 + y6)) + 1))) (65536 * v0 + y6) ≤ (s.2.2.2 76) v0 then
      kfl_tb_above_64 v0 v1 s.2.1 s.1 0 (mO s.2.2 [] [(90, upI (s.2.2.2 90) (65536 * v0 + y6) (cut (((s.2.2.2 90) (65536 * v0 + y6)) + 1)))])
    else
      kfl_tb_above_64 v0 v1 s.2.1 s.1 1 (mO s.2.2 [] [(90, upI (s.2.2.2 90) (65536 * v0 + y6) (cut (((s.2.2.2 90) (65536 * v0 + y6)) + 1)))])
theorem dh_tb_above_21 (B : oB) (w : wX) (c : Nat → Option am_C) (N D : Nat) (v0 : Int) (v1 : Int) (q0 : Rt v0) (q1 : R32 v1) (bb : Nat) (Q2 : Sum (Int × Int × mR) (Int × mR) → ag_Re af_T → Prop) (H1 : ∀ s j, cs_tb_above_21 B s → PP bb w D pm_192 (hd_tb_above_21 B c N v0 v1 s j) (Q2 (.inl s))) (H2 : ∀ x j, cx_tb_above_21 B x → PP bb w D pm_192 (ex_tb_above_21 B c N v0 v1 x j) (Q2 (.inr x))) (s : Int × Int × mR) (j : Nat → Int) (hs : cs_tb_above_21 B s) : PP (bb + 1) w D pm_192 (hd_tb_above_21 B c N v0 v1 s j) (QS Q2 (kfb_tb_above_21 v0 v1 s)) := by
  obtain ⟨g2, g3, gm⟩ := hs
  unfold kfb_tb_above_21
  show PP (bb + 1) w D pm_192 (21, [(0, .ref (tbr v0)), (1, .int (i32 v1)), (2, .int (i32 s.1)), (3, .int (i32 s.2.1)), (4, .int (i32 (j 4)))], [], (khp (mO s.2.2 [] []) c, N), 0, 0) _
  refine P1_ld 22 (.int (i32 s.2.1)) rfl (fun _ => rfl) ?_
  refine P_ld 23 (.int (i32 v1)) rfl (fun _ => rfl) ?_
  refine P_icF 72 26 rfl rfl rfl g3 q1 rfl (fun h5 => ?_) (fun h5 => ?_)
  · skip
    refine P_some ?_
    exact H2 (s.1, s.2.2) (jk [(0, v0), (1, v1), (3, s.2.1), (4, j 4)]) ⟨g2, gm⟩
  · skip
    refine P_ld 27 (.ref (tbr v0)) rfl (fun _ => rfl) ?_
    refine P_ld 28 (.int (i32 s.2.1)) rfl (fun _ => rfl) ?_
    refine P_cp1 31 193 [.ref (tbr v0), .int (i32 s.2.1)] [] rfl (inv_vt (args := [.int (i32 s.2.1)]) (khp_t0 _ q0.1 q0.2) rfl rfl rfl) rfl (D_tb_bucketOf B w s.2.2 c N D gm v0 s.2.1 q0 g3) (fun y6 h7 => ?_)
    refine P_sto 33 [(4, .int (i32 y6)), (0, .ref (tbr v0)), (1, .int (i32 v1)), (2, .int (i32 s.1)), (3, .int (i32 s.2.1))] rfl (fun _ => rfl) ?_
    refine P_ld 34 (.ref (tbr v0)) rfl (fun _ => rfl) ?_
    refine PK_gfr 37 rfl rfl q0.1 q0.2 rfl ?_
    refine P_ld 39 (.int (i32 y6)) rfl (fun _ => rfl) ?_
    refine P_dup2 40 rfl (fun _ => rfl) ?_
    refine PK_ialt2 41 11 (s.2.2.2 90) rfl rfl rfl q0 h7 rfl ?_
    refine P_ld 42 (.int (i32 1)) rfl (fun _ => rfl) ?_
    refine P_op 43 (cut (((s.2.2.2 90) (65536 * v0 + y6)) + 1)) _ rfl (fun _ => rfl) o_add ?_
    refine PK_iastt2 (a' := [(90, upI (s.2.2.2 90) (65536 * v0 + y6) (cut (((s.2.2.2 90) (65536 * v0 + y6)) + 1)))]) 44 11 (s.2.2.2 90) rfl rfl rfl q0 h7 rfl rfl ?_
    refine P_ld 45 (.int (i32 s.1)) rfl (fun _ => rfl) ?_
    refine P_ld 46 (.ref (tbr v0)) rfl (fun _ => rfl) ?_
    refine PK_gfr 49 rfl rfl q0.1 q0.2 rfl ?_
    refine P_ld 51 (.int (i32 y6)) rfl (fun _ => rfl) ?_
    refine PK_ialt2 52 11 (upI (s.2.2.2 90) (65536 * v0 + y6) (cut (((s.2.2.2 90) (65536 * v0 + y6)) + 1))) rfl rfl rfl q0 h7 rfl ?_
    refine P_ld 53 (.ref (tbr v0)) rfl (fun _ => rfl) ?_
    refine PK_gfi 56 76 (s.2.2.2 76) rfl rfl q0.1 q0.2 rfl rfl ?_
    refine P_icF 63 59 rfl rfl rfl (kE_i (kE_ui (KCn_a gm.1 90) rfl cut_r) rfl _) (kE_i (KCn_a gm.1 76) rfl _) rfl (fun h9 => ?_) (fun h9 => ?_)
    · skip
      refine P_ld 64 (.int (i32 0)) rfl (fun _ => rfl) ?_
      refine P_lv (b := [(0, .ref (tbr v0)), (1, .int (i32 v1)), (2, .int (i32 s.1)), (3, .int (i32 s.2.1)), (4, .int (i32 y6))]) rfl rfl ⟨rfl, rfl, rfl, rfl, rfl, trivial⟩ ?_
      exact dg_tb_above_64 B w c N D bb v0 v1 s.2.1 s.1 0 q0 q1 g3 g2 (l32 0 rfl) (mO s.2.2 [] [(90, upI (s.2.2.2 90) (65536 * v0 + y6) (cut (((s.2.2.2 90) (65536 * v0 + y6)) + 1)))]) (KCo_mO gm rfl rfl (KC6 gm rfl) trivial ⟨(kE_ui (KCn_a gm.1 90) rfl cut_r), trivial⟩) (jk [(2, s.1), (4, y6)]) Q2 H1 H2
    · skip
      refine P_ld 60 (.int (i32 1)) rfl (fun _ => rfl) ?_
      refine P_goto 64 rfl (fun _ => rfl) ?_
      refine P_lv (b := [(0, .ref (tbr v0)), (1, .int (i32 v1)), (2, .int (i32 s.1)), (3, .int (i32 s.2.1)), (4, .int (i32 y6))]) rfl rfl ⟨rfl, rfl, rfl, rfl, rfl, trivial⟩ ?_
      exact dg_tb_above_64 B w c N D bb v0 v1 s.2.1 s.1 1 q0 q1 g3 g2 (l32 1 rfl) (mO s.2.2 [] [(90, upI (s.2.2.2 90) (65536 * v0 + y6) (cut (((s.2.2.2 90) (65536 * v0 + y6)) + 1)))]) (KCo_mO gm rfl rfl (KC6 gm rfl) trivial ⟨(kE_ui (KCn_a gm.1 90) rfl cut_r), trivial⟩) (jk [(2, s.1), (4, y6)]) Q2 H1 H2
def kf_tb_above (v0 : Int) (v1 : Int) (m : mR) : Option (Int × mR) :=
  bnd (kf_tb_isHashed v0 m) fun y10 =>
  if y10 = 0 then
    some (0, m)
  else
    bnd (kf_Arrays_fill0_b90 v0 0 m) fun y14 =>
    bnd (whl (kfb_tb_above_21 v0 v1) (0, 0, y14.2)) (fun e17 : Int × mR =>
      some (e17.1, e17.2))
theorem D_tb_above (B : oB) (w : wX) (m : mR) (c : Nat → Option am_C) (N D : Nat) (hm : KCo B m) (v0 : Int) (v1 : Int) (q0 : Rt v0) (q1 : R32 v1) : PC w D 192 [.ref (tbr v0), .int (i32 v1)] (khp m c, N) (QS (FO1 B c N) (kf_tb_above v0 v1 m)) := by
  refine Pc_of (fun D bb => ?_) D
  unfold kf_tb_above
  show PP bb w D pm_192 (0, [(0, .ref (tbr v0)), (1, .int (i32 v1))], [], (khp (mO m [] []) c, N), 0, 0) _
  refine P_ld 1 (.ref (tbr v0)) rfl (fun _ => rfl) ?_
  refine P_cp1 4 135 [.ref (tbr v0)] [] rfl (inv_vt (args := []) (khp_t0 _ q0.1 q0.2) rfl rfl rfl) rfl (D_tb_isHashed w m c N D hm.1 v0 q0) (fun y10 h11 => ?_)
  refine P_ifE 9 7 rfl rfl rfl h11 rfl (fun h13 => ?_) (fun h13 => ?_)
  · skip
    refine P_ld 8 (.int (i32 0)) rfl (fun _ => rfl) ?_
    exact P_ro1 rfl (l32 0 rfl) hm
  · skip
    refine P_ld 10 (.ref (tbr v0)) rfl (fun _ => rfl) ?_
    refine PK_gfr 13 rfl rfl q0.1 q0.2 rfl ?_
    refine P_ld 14 (.int (i32 0)) rfl (fun _ => rfl) ?_
    refine P_co0 17 25 [.ref (tbr v0 + (11 + 1)), .int (i32 0)] [] rfl (fun _ => rfl) rfl (D_Arrays_fill0_b90 B w m c N D hm v0 0 q0 (l32 0 rfl)) (fun y14 n16 => ?_)
    refine P_ld 18 (.int (i32 0)) rfl (fun _ => rfl) ?_
    refine P_sto 19 [(2, .int (i32 0)), (0, .ref (tbr v0)), (1, .int (i32 v1))] rfl (fun _ => rfl) ?_
    refine P_ld 20 (.int (i32 0)) rfl (fun _ => rfl) ?_
    refine P_sto 21 [(3, .int (i32 0)), (2, .int (i32 0)), (0, .ref (tbr v0)), (1, .int (i32 v1))] rfl (fun _ => rfl) ?_
    refine P_lv (b := [(0, .ref (tbr v0)), (1, .int (i32 v1)), (2, .int (i32 0)), (3, .int (i32 0)), (4, .int (i32 0))]) rfl rfl ⟨rfl, rfl, rfl, rfl, trivial⟩ ?_
    refine P_bnd ?_
    refine P_whl (fun bb Q2 H1 H2 s9 j9 hs9 => dh_tb_above_21 B w c N D v0 v1 q0 q1 bb Q2 H1 H2 s9 j9 hs9) bb (fun e17 j q18 => ?_) (0, 0, y14.2) (jk []) ⟨(l32 0 rfl), (l32 0 rfl), n16⟩
    obtain ⟨q19, q20⟩ := q18
    show PP bb w D pm_192 (72, [(0, .ref (tbr (j 0))), (1, .int (i32 (j 1))), (2, .int (i32 e17.1)), (3, .int (i32 (j 3))), (4, .int (i32 (j 4)))], [], (khp (mO e17.2 [] []) c, N), 0, 0) (QS _ (some (e17.1, e17.2)))
    refine P_ld 73 (.int (i32 e17.1)) rfl (fun _ => rfl) ?_
    exact P_ro1 rfl q19 q20
end X55DE
