noncomputable section X28D
def cs_tx_scanName_12 (s : Int × mR) : Prop := R32 s.1 ∧ KCn s.2
def cx_tx_scanName_12 : (mR) → Prop := (fun (e : mR) => KCn e)
def hd_tx_scanName_12 (c : Nat → Option am_C) (N : Nat) (s : Int × mR) (j : Nat → Int) : ag_St af_T := (12, [(0, .ref 6), (1, .int (i32 s.1)), (2, .int (i32 (j 2))), (3, .int (i32 (j 3)))], [], (khp s.2 c, N), 0, 0)
def ex_tx_scanName_12 (c : Nat → Option am_C) (N : Nat) : (mR) → (Nat → Int) → ag_St af_T := (fun (e : mR) (j : Nat → Int) => ((164, [(0, .ref 6), (1, .int (i32 (j 1))), (2, .int (i32 (j 2))), (3, .int (i32 (j 3)))], [], (khp e c, N), 0, 0) : ag_St af_T))
def kfl_tx_scanName_161 (v1 : Int) (m : mR) : Option (Sum (Int × mR) (mR)) :=
  some (.inl (v1, m))
theorem dg_tx_scanName_161 (w : wX) (c : Nat → Option am_C) (N D : Nat) (bb : Nat) (v1 : Int) (q1 : R32 v1) (m : mR) (hm : KCn m) (j : Nat → Int) (Q2 : Sum (Int × mR) (mR) → ag_Re af_T → Prop) (H1 : ∀ s j, cs_tx_scanName_12 s → PP bb w D pm_52 (hd_tx_scanName_12 c N s j) (Q2 (.inl s))) (H2 : ∀ x j, cx_tx_scanName_12 x → PP bb w D pm_52 (ex_tx_scanName_12 c N x j) (Q2 (.inr x))) : PP bb w D pm_52 (161, [(0, .ref 6), (1, .int (i32 v1)), (2, .int (i32 (j 2))), (3, .int (i32 (j 3)))], [], (khp m c, N), 0, 0) (QS Q2 (kfl_tx_scanName_161 v1 m)) := by
  unfold kfl_tx_scanName_161
  show PP bb w D pm_52 (161, [(0, .ref 6), (1, .int (i32 v1)), (2, .int (i32 (j 2))), (3, .int (i32 (j 3)))], [], (khp (mO m [] []) c, N), 0, 0) _
  refine P_goto 12 rfl (fun _ => rfl) ?_
  refine P_some ?_
  exact H1 (v1, m) (jk [(2, j 2), (3, j 3)]) ⟨q1, hm⟩
def kfl_tx_scanName_147 (v1 : Int) (u1 : Int) (u2 : Int) (m : mR) : Option (Sum (Int × mR) (mR)) :=
  kfl_tx_scanName_161 v1 (mO m [(205, cut ((m.1 205) + 1)), (210, or64 u1 u2)] [])
theorem dg_tx_scanName_147 (w : wX) (c : Nat → Option am_C) (N D : Nat) (bb : Nat) (v1 : Int) (u1 : Int) (u2 : Int) (q1 : R32 v1) (r1 : R64 u1) (r2 : R64 u2) (m : mR) (hm : KCn m) (j : Nat → Int) (Q2 : Sum (Int × mR) (mR) → ag_Re af_T → Prop) (H1 : ∀ s j, cs_tx_scanName_12 s → PP bb w D pm_52 (hd_tx_scanName_12 c N s j) (Q2 (.inl s))) (H2 : ∀ x j, cx_tx_scanName_12 x → PP bb w D pm_52 (ex_tx_scanName_12 c N x j) (Q2 (.inr x))) : PP bb w D pm_52 (147, [(0, .ref 6), (1, .int (i32 v1)), (2, .int (i32 (j 2))), (3, .int (i32 (j 3)))], [.long (i64 u2), .long (i64 u1), .ref 6], (khp m c, N), 0, 0) (QS Q2 (kfl_tx_scanName_147 v1 u1 u2 m)) := by
  unfold kfl_tx_scanName_147
  show PP bb w D pm_52 (147, [(0, .ref 6), (1, .int (i32 v1)), (2, .int (i32 (j 2))), (3, .int (i32 (j 3)))], [.long (i64 u2), .long (i64 u1), .ref 6], (khp (mO m [] []) c, N), 0, 0) _
  refine P_opl 148 (or64 u1 u2) _ rfl (fun _ => rfl) (Int64.ofInt_toInt _).symm ?_
  refine PK_pf (l' := [(210, or64 u1 u2)]) 151 (or64 u1 u2) rfl rfl kd_6 rfl rfl rfl rfl rfl rfl rfl ?_
  refine P_ld 152 (.ref 6) rfl (fun _ => rfl) ?_
  refine P_ld 153 (.ref 6) rfl (fun _ => rfl) ?_
  refine PK_gf 156 (.int (i32 (m.1 205))) rfl rfl kd_6 rfl rfl rfl ?_
  refine P_ld 157 (.int (i32 1)) rfl (fun _ => rfl) ?_
  refine P_op 158 (cut ((m.1 205) + 1)) _ rfl (fun _ => rfl) o_add ?_
  refine PK_pf (l' := [(205, cut ((m.1 205) + 1)), (210, or64 u1 u2)]) 161 (cut ((m.1 205) + 1)) rfl rfl kd_6 rfl rfl rfl rfl rfl rfl rfl ?_
  exact dg_tx_scanName_161 w c N D bb v1 q1 (mO m [(205, cut ((m.1 205) + 1)), (210, or64 u1 u2)] []) (KCn_mO hm rfl rfl ⟨(kV_i rfl cut_r), (kV_l rfl t64_r), trivial⟩ trivial) (jk [(2, j 2), (3, j 3)]) Q2 H1 H2
def kfl_tx_scanName_146 (v1 : Int) (u1 : Int) (m : mR) : Option (Sum (Int × mR) (mR)) :=
  kfl_tx_scanName_147 v1 u1 0 m
theorem dg_tx_scanName_146 (w : wX) (c : Nat → Option am_C) (N D : Nat) (bb : Nat) (v1 : Int) (u1 : Int) (q1 : R32 v1) (r1 : R64 u1) (m : mR) (hm : KCn m) (j : Nat → Int) (Q2 : Sum (Int × mR) (mR) → ag_Re af_T → Prop) (H1 : ∀ s j, cs_tx_scanName_12 s → PP bb w D pm_52 (hd_tx_scanName_12 c N s j) (Q2 (.inl s))) (H2 : ∀ x j, cx_tx_scanName_12 x → PP bb w D pm_52 (ex_tx_scanName_12 c N x j) (Q2 (.inr x))) : PP bb w D pm_52 (146, [(0, .ref 6), (1, .int (i32 v1)), (2, .int (i32 (j 2))), (3, .int (i32 (j 3)))], [.long (i64 u1), .ref 6], (khp m c, N), 0, 0) (QS Q2 (kfl_tx_scanName_146 v1 u1 m)) := by
  unfold kfl_tx_scanName_146
  show PP bb w D pm_52 (146, [(0, .ref 6), (1, .int (i32 v1)), (2, .int (i32 (j 2))), (3, .int (i32 (j 3)))], [.long (i64 u1), .ref 6], (khp (mO m [] []) c, N), 0, 0) _
  refine P_ld 147 (.long (i64 0)) rfl (fun _ => rfl) ?_
  exact dg_tx_scanName_147 w c N D bb v1 u1 0 q1 r1 (l64 0 rfl) m hm (jk [(2, j 2), (3, j 3)]) Q2 H1 H2
def kfl_tx_scanName_112 (v1 : Int) (v2 : Int) (v3 : Int) (u1 : Int) (u2 : Int) (m : mR) : Option (Sum (Int × mR) (mR)) :=
  if v3 < 8 then
    kfl_tx_scanName_146 v1 (m.1 210) (mO m [(209, or64 u1 u2)] [])
  else
    if (16 : Int) ≤ v3 then
      kfl_tx_scanName_146 v1 (m.1 210) (mO m [(209, or64 u1 u2)] [])
    else
      kfl_tx_scanName_147 v1 (m.1 210) (shl64 v2 (cut (120 - (cut (8 * v3))))) (mO m [(209, or64 u1 u2)] [])
theorem dg_tx_scanName_112 (w : wX) (c : Nat → Option am_C) (N D : Nat) (bb : Nat) (v1 : Int) (v2 : Int) (v3 : Int) (u1 : Int) (u2 : Int) (q1 : R32 v1) (q2 : R32 v2) (q3 : R32 v3) (r1 : R64 u1) (r2 : R64 u2) (m : mR) (hm : KCn m) (j : Nat → Int) (Q2 : Sum (Int × mR) (mR) → ag_Re af_T → Prop) (H1 : ∀ s j, cs_tx_scanName_12 s → PP bb w D pm_52 (hd_tx_scanName_12 c N s j) (Q2 (.inl s))) (H2 : ∀ x j, cx_tx_scanName_12 x → PP bb w D pm_52 (ex_tx_scanName_12 c N x j) (Q2 (.inr x))) : PP bb w D pm_52 (112, [(0, .ref 6), (1, .int (i32 v1)), (2, .int (i32 v2)), (3, .int (i32 v3))], [.long (i64 u2), .long (i64 u1), .ref 6], (khp m c, N), 0, 0) (QS Q2 (kfl_tx_scanName_112 v1 v2 v3 u1 u2 m)) := by
  unfold kfl_tx_scanName_112
  show PP bb w D pm_52 (112, [(0, .ref 6), (1, .int (i32 v1)), (2, .int (i32 v2)), (3, .int (i32 v3))], [.long (i64 u2), .long (i64 u1), .ref 6], (khp (mO m [] []) c, N), 0, 0) _
  refine P_opl 113 (or64 u1 u2) _ rfl (fun _ => rfl) (Int64.ofInt_toInt _).symm ?_
  refine PK_pf (l' := [(209, or64 u1 u2)]) 116 (or64 u1 u2) rfl rfl kd_6 rfl rfl rfl rfl rfl rfl rfl ?_
  refine P_ld 117 (.ref 6) rfl (fun _ => rfl) ?_
  refine P_ld 118 (.ref 6) rfl (fun _ => rfl) ?_
  refine PK_gf 121 (.long (i64 (m.1 210))) rfl rfl kd_6 rfl rfl rfl ?_
  refine P_ld 122 (.int (i32 v3)) rfl (fun _ => rfl) ?_
  refine P_ld 124 (.int (i32 8)) rfl (fun _ => rfl) ?_
  refine P_icF 146 127 rfl rfl rfl q3 (l32 8 rfl) rfl (fun h2 => ?_) (fun h2 => ?_)
  · skip
    exact dg_tx_scanName_146 w c N D bb v1 (m.1 210) q1 (KCn_l hm 210 rfl) (mO m [(209, or64 u1 u2)] []) (KCn_mO hm rfl rfl ⟨(kV_l rfl t64_r), trivial⟩ trivial) (jk [(2, v2), (3, v3)]) Q2 H1 H2
  · skip
    refine P_ld 128 (.int (i32 v3)) rfl (fun _ => rfl) ?_
    refine P_ld 130 (.int (i32 16)) rfl (fun _ => rfl) ?_
    refine P_icF 146 133 rfl rfl rfl q3 (l32 16 rfl) rfl (fun h3 => ?_) (fun h3 => ?_)
    · skip
      exact dg_tx_scanName_146 w c N D bb v1 (m.1 210) q1 (KCn_l hm 210 rfl) (mO m [(209, or64 u1 u2)] []) (KCn_mO hm rfl rfl ⟨(kV_l rfl t64_r), trivial⟩ trivial) (jk [(2, v2), (3, v3)]) Q2 H1 H2
    · skip
      refine P_ld 134 (.int (i32 v2)) rfl (fun _ => rfl) ?_
      refine P_opl 135 v2 _ rfl (fun _ => rfl) (o_i2l q2) ?_
      refine P_ld 137 (.int (i32 120)) rfl (fun _ => rfl) ?_
      refine P_ld 139 (.int (i32 8)) rfl (fun _ => rfl) ?_
      refine P_ld 140 (.int (i32 v3)) rfl (fun _ => rfl) ?_
      refine P_op 141 (cut (8 * v3)) _ rfl (fun _ => rfl) o_mul ?_
      refine P_op 142 (cut (120 - (cut (8 * v3)))) _ rfl (fun _ => rfl) o_sub ?_
      refine P_opl 143 (shl64 v2 (cut (120 - (cut (8 * v3))))) _ rfl (fun _ => rfl) (Int64.ofInt_toInt _).symm ?_
      refine P_goto 147 rfl (fun _ => rfl) ?_
      exact dg_tx_scanName_147 w c N D bb v1 (m.1 210) (shl64 v2 (cut (120 - (cut (8 * v3))))) q1 (KCn_l hm 210 rfl) t64_r (mO m [(209, or64 u1 u2)] []) (KCn_mO hm rfl rfl ⟨(kV_l rfl t64_r), trivial⟩ trivial) (jk [(2, v2), (3, v3)]) Q2 H1 H2
def kfl_tx_scanName_72 (v2 : Int) (u0 : Int) (m : mR) : Option (Sum (Int × mR) (mR)) :=
  if u0 = 0 then
    kfl_tx_scanName_161 u0 m
  else
    if (8 : Int) ≤ cut ((m.1 205) - (m.1 207)) then
      kfl_tx_scanName_112 u0 v2 (cut ((m.1 205) - (m.1 207))) (m.1 209) 0 m
    else
      kfl_tx_scanName_112 u0 v2 (cut ((m.1 205) - (m.1 207))) (m.1 209) (shl64 v2 (cut (56 - (cut (8 * (cut ((m.1 205) - (m.1 207)))))))) m
theorem dg_tx_scanName_72 (w : wX) (c : Nat → Option am_C) (N D : Nat) (bb : Nat) (v2 : Int) (u0 : Int) (q2 : R32 v2) (r0 : R32 u0) (m : mR) (hm : KCn m) (j : Nat → Int) (Q2 : Sum (Int × mR) (mR) → ag_Re af_T → Prop) (H1 : ∀ s j, cs_tx_scanName_12 s → PP bb w D pm_52 (hd_tx_scanName_12 c N s j) (Q2 (.inl s))) (H2 : ∀ x j, cx_tx_scanName_12 x → PP bb w D pm_52 (ex_tx_scanName_12 c N x j) (Q2 (.inr x))) : PP bb w D pm_52 (72, [(0, .ref 6), (1, .int (i32 (j 1))), (2, .int (i32 v2)), (3, .int (i32 (j 3)))], [.int (i32 u0)], (khp m c, N), 0, 0) (QS Q2 (kfl_tx_scanName_72 v2 u0 m)) := by
  unfold kfl_tx_scanName_72
  show PP bb w D pm_52 (72, [(0, .ref 6), (1, .int (i32 (j 1))), (2, .int (i32 v2)), (3, .int (i32 (j 3)))], [.int (i32 u0)], (khp (mO m [] []) c, N), 0, 0) _
  refine P_sto 73 [(1, .int (i32 u0)), (0, .ref 6), (2, .int (i32 v2)), (3, .int (i32 (j 3)))] rfl (fun _ => rfl) ?_
  refine P_ld 74 (.int (i32 u0)) rfl (fun _ => rfl) ?_
  refine P_ifF 161 77 rfl rfl rfl r0 rfl (fun h4 => ?_) (fun h4 => ?_)
  · skip
    refine P_lv (b := [(0, .ref 6), (1, .int (i32 u0)), (2, .int (i32 v2)), (3, .int (i32 (j 3)))]) rfl rfl ⟨rfl, rfl, rfl, rfl, trivial⟩ ?_
    exact dg_tx_scanName_161 w c N D bb u0 r0 m hm (jk [(2, v2), (3, j 3)]) Q2 H1 H2
  · skip
    refine P_ld 78 (.ref 6) rfl (fun _ => rfl) ?_
    refine PK_gf 81 (.int (i32 (m.1 205))) rfl rfl kd_6 rfl rfl rfl ?_
    refine P_ld 82 (.ref 6) rfl (fun _ => rfl) ?_
    refine PK_gf 85 (.int (i32 (m.1 207))) rfl rfl kd_6 rfl rfl rfl ?_
    refine P_op 86 (cut ((m.1 205) - (m.1 207))) _ rfl (fun _ => rfl) o_sub ?_
    refine P_sto 87 [(3, .int (i32 (cut ((m.1 205) - (m.1 207))))), (1, .int (i32 u0)), (0, .ref 6), (2, .int (i32 v2))] rfl (fun _ => rfl) ?_
    refine P_ld 88 (.ref 6) rfl (fun _ => rfl) ?_
    refine P_ld 89 (.ref 6) rfl (fun _ => rfl) ?_
    refine PK_gf 92 (.long (i64 (m.1 209))) rfl rfl kd_6 rfl rfl rfl ?_
    refine P_ld 93 (.int (i32 (cut ((m.1 205) - (m.1 207))))) rfl (fun _ => rfl) ?_
    refine P_ld 95 (.int (i32 8)) rfl (fun _ => rfl) ?_
    refine P_icF 111 98 rfl rfl rfl cut_r (l32 8 rfl) rfl (fun h5 => ?_) (fun h5 => ?_)
    · skip
      refine P_ld 112 (.long (i64 0)) rfl (fun _ => rfl) ?_
      refine P_lv (b := [(0, .ref 6), (1, .int (i32 u0)), (2, .int (i32 v2)), (3, .int (i32 (cut ((m.1 205) - (m.1 207)))))]) rfl rfl ⟨rfl, rfl, rfl, rfl, trivial⟩ ?_
      exact dg_tx_scanName_112 w c N D bb u0 v2 (cut ((m.1 205) - (m.1 207))) (m.1 209) 0 r0 q2 cut_r (KCn_l hm 209 rfl) (l64 0 rfl) m hm (jk []) Q2 H1 H2
    · skip
      refine P_ld 99 (.int (i32 v2)) rfl (fun _ => rfl) ?_
      refine P_opl 100 v2 _ rfl (fun _ => rfl) (o_i2l q2) ?_
      refine P_ld 102 (.int (i32 56)) rfl (fun _ => rfl) ?_
      refine P_ld 104 (.int (i32 8)) rfl (fun _ => rfl) ?_
      refine P_ld 105 (.int (i32 (cut ((m.1 205) - (m.1 207))))) rfl (fun _ => rfl) ?_
      refine P_op 106 (cut (8 * (cut ((m.1 205) - (m.1 207))))) _ rfl (fun _ => rfl) o_mul ?_
      refine P_op 107 (cut (56 - (cut (8 * (cut ((m.1 205) - (m.1 207))))))) _ rfl (fun _ => rfl) o_sub ?_
      refine P_opl 108 (shl64 v2 (cut (56 - (cut (8 * (cut ((m.1 205) - (m.1 207)))))))) _ rfl (fun _ => rfl) (Int64.ofInt_toInt _).symm ?_
      refine P_goto 112 rfl (fun _ => rfl) ?_
      refine P_lv (b := [(0, .ref 6), (1, .int (i32 u0)), (2, .int (i32 v2)), (3, .int (i32 (cut ((m.1 205) - (m.1 207)))))]) rfl rfl ⟨rfl, rfl, rfl, rfl, trivial⟩ ?_
      exact dg_tx_scanName_112 w c N D bb u0 v2 (cut ((m.1 205) - (m.1 207))) (m.1 209) (shl64 v2 (cut (56 - (cut (8 * (cut ((m.1 205) - (m.1 207)))))))) r0 q2 cut_r (KCn_l hm 209 rfl) t64_r m hm (jk []) Q2 H1 H2
def kfl_tx_scanName_67 (v2 : Int) (m : mR) : Option (Sum (Int × mR) (mR)) :=
  kfl_tx_scanName_72 v2 1 m
theorem dg_tx_scanName_67 (w : wX) (c : Nat → Option am_C) (N D : Nat) (bb : Nat) (v2 : Int) (q2 : R32 v2) (m : mR) (hm : KCn m) (j : Nat → Int) (Q2 : Sum (Int × mR) (mR) → ag_Re af_T → Prop) (H1 : ∀ s j, cs_tx_scanName_12 s → PP bb w D pm_52 (hd_tx_scanName_12 c N s j) (Q2 (.inl s))) (H2 : ∀ x j, cx_tx_scanName_12 x → PP bb w D pm_52 (ex_tx_scanName_12 c N x j) (Q2 (.inr x))) : PP bb w D pm_52 (67, [(0, .ref 6), (1, .int (i32 (j 1))), (2, .int (i32 v2)), (3, .int (i32 (j 3)))], [], (khp m c, N), 0, 0) (QS Q2 (kfl_tx_scanName_67 v2 m)) := by
  unfold kfl_tx_scanName_67
  show PP bb w D pm_52 (67, [(0, .ref 6), (1, .int (i32 (j 1))), (2, .int (i32 v2)), (3, .int (i32 (j 3)))], [], (khp (mO m [] []) c, N), 0, 0) _
  refine P_ld 68 (.int (i32 1)) rfl (fun _ => rfl) ?_
  refine P_goto 72 rfl (fun _ => rfl) ?_
  exact dg_tx_scanName_72 w c N D bb v2 1 q2 (l32 1 rfl) m hm (jk [(1, j 1), (3, j 3)]) Q2 H1 H2
def kfl_tx_scanName_61 (v2 : Int) (m : mR) : Option (Sum (Int × mR) (mR)) :=
  if v2 = 95 then
    kfl_tx_scanName_67 v2 m
  else
    kfl_tx_scanName_72 v2 0 m
theorem dg_tx_scanName_61 (w : wX) (c : Nat → Option am_C) (N D : Nat) (bb : Nat) (v2 : Int) (q2 : R32 v2) (m : mR) (hm : KCn m) (j : Nat → Int) (Q2 : Sum (Int × mR) (mR) → ag_Re af_T → Prop) (H1 : ∀ s j, cs_tx_scanName_12 s → PP bb w D pm_52 (hd_tx_scanName_12 c N s j) (Q2 (.inl s))) (H2 : ∀ x j, cx_tx_scanName_12 x → PP bb w D pm_52 (ex_tx_scanName_12 c N x j) (Q2 (.inr x))) : PP bb w D pm_52 (61, [(0, .ref 6), (1, .int (i32 (j 1))), (2, .int (i32 v2)), (3, .int (i32 (j 3)))], [], (khp m c, N), 0, 0) (QS Q2 (kfl_tx_scanName_61 v2 m)) := by
  unfold kfl_tx_scanName_61
  show PP bb w D pm_52 (61, [(0, .ref 6), (1, .int (i32 (j 1))), (2, .int (i32 v2)), (3, .int (i32 (j 3)))], [], (khp (mO m [] []) c, N), 0, 0) _
  refine P_ld 62 (.int (i32 v2)) rfl (fun _ => rfl) ?_
  refine P_ld 64 (.int (i32 95)) rfl (fun _ => rfl) ?_
  refine P_icE 71 67 rfl rfl rfl q2 (l32 95 rfl) rfl (fun h6 => ?_) (fun h6 => ?_)
  · skip
    exact dg_tx_scanName_67 w c N D bb v2 q2 m hm (jk [(1, j 1), (3, j 3)]) Q2 H1 H2
  · skip
    refine P_ld 72 (.int (i32 0)) rfl (fun _ => rfl) ?_
    exact dg_tx_scanName_72 w c N D bb v2 0 q2 (l32 0 rfl) m hm (jk [(1, j 1), (3, j 3)]) Q2 H1 H2
def kfl_tx_scanName_49 (v2 : Int) (m : mR) : Option (Sum (Int × mR) (mR)) :=
  if v2 < 48 then
    kfl_tx_scanName_61 v2 m
  else
    if v2 ≤ 57 then
      kfl_tx_scanName_67 v2 m
    else
      kfl_tx_scanName_61 v2 m
theorem dg_tx_scanName_49 (w : wX) (c : Nat → Option am_C) (N D : Nat) (bb : Nat) (v2 : Int) (q2 : R32 v2) (m : mR) (hm : KCn m) (j : Nat → Int) (Q2 : Sum (Int × mR) (mR) → ag_Re af_T → Prop) (H1 : ∀ s j, cs_tx_scanName_12 s → PP bb w D pm_52 (hd_tx_scanName_12 c N s j) (Q2 (.inl s))) (H2 : ∀ x j, cx_tx_scanName_12 x → PP bb w D pm_52 (ex_tx_scanName_12 c N x j) (Q2 (.inr x))) : PP bb w D pm_52 (49, [(0, .ref 6), (1, .int (i32 (j 1))), (2, .int (i32 v2)), (3, .int (i32 (j 3)))], [], (khp m c, N), 0, 0) (QS Q2 (kfl_tx_scanName_49 v2 m)) := by
  unfold kfl_tx_scanName_49
  show PP bb w D pm_52 (49, [(0, .ref 6), (1, .int (i32 (j 1))), (2, .int (i32 v2)), (3, .int (i32 (j 3)))], [], (khp (mO m [] []) c, N), 0, 0) _
  refine P_ld 50 (.int (i32 v2)) rfl (fun _ => rfl) ?_
  refine P_ld 52 (.int (i32 48)) rfl (fun _ => rfl) ?_
  refine P_icF 61 55 rfl rfl rfl q2 (l32 48 rfl) rfl (fun h7 => ?_) (fun h7 => ?_)
  · skip
    exact dg_tx_scanName_61 w c N D bb v2 q2 m hm (jk [(1, j 1), (3, j 3)]) Q2 H1 H2
  · skip
    refine P_ld 56 (.int (i32 v2)) rfl (fun _ => rfl) ?_
    refine P_ld 58 (.int (i32 57)) rfl (fun _ => rfl) ?_
    refine P_icF 67 61 rfl rfl rfl q2 (l32 57 rfl) rfl (fun h8 => ?_) (fun h8 => ?_)
    · skip
      exact dg_tx_scanName_67 w c N D bb v2 q2 m hm (jk [(1, j 1), (3, j 3)]) Q2 H1 H2
    · skip
      exact dg_tx_scanName_61 w c N D bb v2 q2 m hm (jk [(1, j 1), (3, j 3)]) Q2 H1 H2
def kfb_tx_scanName_12 (s : Int × mR) : Option (Sum (Int × mR) (mR)) :=
  if s.1 = 0 then
    some (.inr s.2)
  else
    if s.2.1 204 ≤ s.2.1 205 then
      some (.inr s.2)
    else
      if (s.2.2 1) (s.2.1 205) < 97 then
        kfl_tx_scanName_49 ((s.2.2 1) (s.2.1 205)) s.2
      else
        if (s.2.2 1) (s.2.1 205) ≤ 122 then
          kfl_tx_scanName_67 ((s.2.2 1) (s.2.1 205)) s.2
        else
          kfl_tx_scanName_49 ((s.2.2 1) (s.2.1 205)) s.2
theorem dh_tx_scanName_12 (w : wX) (c : Nat → Option am_C) (N D : Nat) (bb : Nat) (Q2 : Sum (Int × mR) (mR) → ag_Re af_T → Prop) (H1 : ∀ s j, cs_tx_scanName_12 s → PP bb w D pm_52 (hd_tx_scanName_12 c N s j) (Q2 (.inl s))) (H2 : ∀ x j, cx_tx_scanName_12 x → PP bb w D pm_52 (ex_tx_scanName_12 c N x j) (Q2 (.inr x))) (s : Int × mR) (j : Nat → Int) (hs : cs_tx_scanName_12 s) : PP (bb + 1) w D pm_52 (hd_tx_scanName_12 c N s j) (QS Q2 (kfb_tx_scanName_12 s)) := by
  obtain ⟨g1, gm⟩ := hs
  unfold kfb_tx_scanName_12
  show PP (bb + 1) w D pm_52 (12, [(0, .ref 6), (1, .int (i32 s.1)), (2, .int (i32 (j 2))), (3, .int (i32 (j 3)))], [], (khp (mO s.2 [] []) c, N), 0, 0) _
  refine P1_ld 13 (.int (i32 s.1)) rfl (fun _ => rfl) ?_
  refine P_ifF 164 16 rfl rfl rfl g1 rfl (fun h10 => ?_) (fun h10 => ?_)
  · skip
    refine P_some ?_
    exact H2 s.2 (jk [(1, s.1), (2, j 2), (3, j 3)]) gm
  · skip
    refine P_ld 17 (.ref 6) rfl (fun _ => rfl) ?_
    refine PK_gf 20 (.int (i32 (s.2.1 205))) rfl rfl kd_6 rfl rfl rfl ?_
    refine P_ld 21 (.ref 6) rfl (fun _ => rfl) ?_
    refine PK_gf 24 (.int (i32 (s.2.1 204))) rfl rfl kd_6 rfl rfl rfl ?_
    refine P_icF 164 27 rfl rfl rfl (KCn_i gm 205 rfl) (KCn_i gm 204 rfl) rfl (fun h11 => ?_) (fun h11 => ?_)
    · skip
      refine P_some ?_
      exact H2 s.2 (jk [(1, s.1), (2, j 2), (3, j 3)]) gm
    · skip
      refine P_ld 28 (.ref 6) rfl (fun _ => rfl) ?_
      refine PK_gf 31 (.ref 2) rfl rfl kd_6 rfl rfl rfl ?_
      refine P_ld 32 (.ref 6) rfl (fun _ => rfl) ?_
      refine PK_gf 35 (.int (i32 (s.2.1 205))) rfl rfl kd_6 rfl rfl rfl ?_
      refine PK_bald2 36 1 (s.2.2 1) rfl rfl rfl (KCn_i gm 205 rfl) rfl ?_
      refine P_sto 37 [(2, .int (i32 ((s.2.2 1) (s.2.1 205)))), (0, .ref 6), (1, .int (i32 s.1)), (3, .int (i32 (j 3)))] rfl (fun _ => rfl) ?_
      refine P_ld 38 (.int (i32 ((s.2.2 1) (s.2.1 205)))) rfl (fun _ => rfl) ?_
      refine P_ld 40 (.int (i32 97)) rfl (fun _ => rfl) ?_
      refine P_icF 49 43 rfl rfl rfl (kE_i (KCn_a gm 1) rfl _) (l32 97 rfl) rfl (fun h12 => ?_) (fun h12 => ?_)
      · skip
        refine P_lv (b := [(0, .ref 6), (1, .int (i32 s.1)), (2, .int (i32 ((s.2.2 1) (s.2.1 205)))), (3, .int (i32 (j 3)))]) rfl rfl ⟨rfl, rfl, rfl, rfl, trivial⟩ ?_
        exact dg_tx_scanName_49 w c N D bb ((s.2.2 1) (s.2.1 205)) (kE_i (KCn_a gm 1) rfl _) s.2 gm (jk [(1, s.1), (3, j 3)]) Q2 H1 H2
      · skip
        refine P_ld 44 (.int (i32 ((s.2.2 1) (s.2.1 205)))) rfl (fun _ => rfl) ?_
        refine P_ld 46 (.int (i32 122)) rfl (fun _ => rfl) ?_
        refine P_icF 67 49 rfl rfl rfl (kE_i (KCn_a gm 1) rfl _) (l32 122 rfl) rfl (fun h13 => ?_) (fun h13 => ?_)
        · skip
          refine P_lv (b := [(0, .ref 6), (1, .int (i32 s.1)), (2, .int (i32 ((s.2.2 1) (s.2.1 205)))), (3, .int (i32 (j 3)))]) rfl rfl ⟨rfl, rfl, rfl, rfl, trivial⟩ ?_
          exact dg_tx_scanName_67 w c N D bb ((s.2.2 1) (s.2.1 205)) (kE_i (KCn_a gm 1) rfl _) s.2 gm (jk [(1, s.1), (3, j 3)]) Q2 H1 H2
        · skip
          refine P_lv (b := [(0, .ref 6), (1, .int (i32 s.1)), (2, .int (i32 ((s.2.2 1) (s.2.1 205)))), (3, .int (i32 (j 3)))]) rfl rfl ⟨rfl, rfl, rfl, rfl, trivial⟩ ?_
          exact dg_tx_scanName_49 w c N D bb ((s.2.2 1) (s.2.1 205)) (kE_i (KCn_a gm 1) rfl _) s.2 gm (jk [(1, s.1), (3, j 3)]) Q2 H1 H2
def kf_tx_scanName (m : mR) : Option (Int × mR) :=
  bnd (whl kfb_tx_scanName_12 (1, (mO m [(209, 0), (210, 0)] []))) (fun e14 : mR =>
    some (0, e14))
theorem D_tx_scanName (w : wX) (m : mR) (c : Nat → Option am_C) (N D : Nat) (hm : KCn m) : PC w D 52 [.ref 6] (khp m c, N) (QS (FK0 c N) (kf_tx_scanName m)) := by
  refine Pc_of (fun D bb => ?_) D
  unfold kf_tx_scanName
  show PP bb w D pm_52 (0, [(0, .ref 6)], [], (khp (mO m [] []) c, N), 0, 0) _
  refine P_ld 1 (.ref 6) rfl (fun _ => rfl) ?_
  refine P_ld 2 (.long (i64 0)) rfl (fun _ => rfl) ?_
  refine PK_pf (l' := [(209, 0)]) 5 0 rfl rfl kd_6 rfl rfl rfl rfl rfl rfl rfl ?_
  refine P_ld 6 (.ref 6) rfl (fun _ => rfl) ?_
  refine P_ld 7 (.long (i64 0)) rfl (fun _ => rfl) ?_
  refine PK_pf (l' := [(209, 0), (210, 0)]) 10 0 rfl rfl kd_6 rfl rfl rfl rfl rfl rfl rfl ?_
  refine P_ld 11 (.int (i32 1)) rfl (fun _ => rfl) ?_
  refine P_sto 12 [(1, .int (i32 1)), (0, .ref 6)] rfl (fun _ => rfl) ?_
  refine P_lv (b := [(0, .ref 6), (1, .int (i32 1)), (2, .int (i32 0)), (3, .int (i32 0))]) rfl rfl ⟨rfl, rfl, trivial⟩ ?_
  refine P_bnd ?_
  refine P_whl (fun bb Q2 H1 H2 s9 j9 hs9 => dh_tx_scanName_12 w c N D bb Q2 H1 H2 s9 j9 hs9) bb (fun e14 j q15 => ?_) (1, (mO m [(209, 0), (210, 0)] [])) (jk []) ⟨(l32 1 rfl), (KCn_mO hm rfl rfl ⟨(kV_l rfl (l64 0 rfl)), (kV_l rfl (l64 0 rfl)), trivial⟩ trivial)⟩
  have q16 := q15
  show PP bb w D pm_52 (164, [(0, .ref 6), (1, .int (i32 (j 1))), (2, .int (i32 (j 2))), (3, .int (i32 (j 3)))], [], (khp (mO e14 [] []) c, N), 0, 0) (QS _ (some (0, e14)))
  exact P_rk0 rfl rfl q16
def cs_tx_wordOfName_2 (s : Int) : Prop := R32 s
def cx_tx_wordOfName_2 : (Sum (Int) (Unit)) → Prop := (sel (fun (e : Int) => R32 e) (fun (e : Unit) => True))
def hd_tx_wordOfName_2 (c : Nat → Option am_C) (N : Nat) (m : mR) (s : Int) (j : Nat → Int) : ag_St af_T := (2, [(0, .ref 6), (1, .int (i32 s))], [], (khp m c, N), 0, 0)
def ex_tx_wordOfName_2 (c : Nat → Option am_C) (N : Nat) (m : mR) : (Sum (Int) (Unit)) → (Nat → Int) → ag_St af_T := (sel (fun (e : Int) (j : Nat → Int) => ((31, [(0, .ref 6), (1, .int (i32 e))], [], (khp m c, N), 0, 0) : ag_St af_T)) (fun (e : Unit) (j : Nat → Int) => ((43, [(0, .ref 6), (1, .int (i32 (j 1)))], [], (khp m c, N), 0, 0) : ag_St af_T)))
def kfl_tx_wordOfName_43 (m : mR) : Option Int :=
  some 256
theorem dg_tx_wordOfName_43 (w : wX) (c : Nat → Option am_C) (N D : Nat) (bb : Nat) (m : mR) (hm : KCn m) (j : Nat → Int) : PP bb w D pm_53 (43, [(0, .ref 6), (1, .int (i32 (j 1)))], [], (khp m c, N), 0, 0) (QS (FP1 (khp m c, N)) (kfl_tx_wordOfName_43 m)) := by
  unfold kfl_tx_wordOfName_43
  show PP bb w D pm_53 (43, [(0, .ref 6), (1, .int (i32 (j 1)))], [], (khp (mO m [] []) c, N), 0, 0) _
  refine P_ld 46 (.int (i32 256)) rfl (fun _ => rfl) ?_
  exact P_rp1 rfl (l32 256 rfl)
def kfl_tx_wordOfName_31 (v1 : Int) (m : mR) : Option Int :=
  some (cut (300 + v1))
theorem dg_tx_wordOfName_31 (w : wX) (c : Nat → Option am_C) (N D : Nat) (bb : Nat) (v1 : Int) (q1 : R32 v1) (m : mR) (hm : KCn m) (j : Nat → Int) : PP bb w D pm_53 (31, [(0, .ref 6), (1, .int (i32 v1))], [], (khp m c, N), 0, 0) (QS (FP1 (khp m c, N)) (kfl_tx_wordOfName_31 v1 m)) := by
  unfold kfl_tx_wordOfName_31
  show PP bb w D pm_53 (31, [(0, .ref 6), (1, .int (i32 v1))], [], (khp (mO m [] []) c, N), 0, 0) _
  refine P_ld 34 (.int (i32 300)) rfl (fun _ => rfl) ?_
  refine P_ld 35 (.int (i32 v1)) rfl (fun _ => rfl) ?_
  refine P_op 36 (cut (300 + v1)) _ rfl (fun _ => rfl) o_add ?_
  exact P_rp1 rfl cut_r
def kfb_tx_wordOfName_2 (m : mR) (s : Int) : Option (Sum (Int) (Sum (Int) (Unit))) :=
  if (31 : Int) ≤ s then
    some (.inr (.inr ()))
  else
    if cmp64 (m.1 210) 0 = 0 then
      if cmp64 ((m.2 5) s) (m.1 209) = 0 then
        some (.inr (.inl s))
      else
        some (.inl (cut (s + 1)))
    else
      some (.inr (.inr ()))
theorem dh_tx_wordOfName_2 (w : wX) (c : Nat → Option am_C) (N D : Nat) (m : mR) (hm : KCn m) (bb : Nat) (Q2 : Sum (Int) (Sum (Int) (Unit)) → ag_Re af_T → Prop) (H1 : ∀ s j, cs_tx_wordOfName_2 s → PP bb w D pm_53 (hd_tx_wordOfName_2 c N m s j) (Q2 (.inl s))) (H2 : ∀ x j, cx_tx_wordOfName_2 x → PP bb w D pm_53 (ex_tx_wordOfName_2 c N m x j) (Q2 (.inr x))) (s : Int) (j : Nat → Int) (hs : cs_tx_wordOfName_2 s) : PP (bb + 1) w D pm_53 (hd_tx_wordOfName_2 c N m s j) (QS Q2 (kfb_tx_wordOfName_2 m s)) := by
  have g1 := hs
  unfold kfb_tx_wordOfName_2
  show PP (bb + 1) w D pm_53 (2, [(0, .ref 6), (1, .int (i32 s))], [], (khp (mO m [] []) c, N), 0, 0) _
  refine P1_ld 3 (.int (i32 s)) rfl (fun _ => rfl) ?_
  refine P_ld 5 (.int (i32 31)) rfl (fun _ => rfl) ?_
  refine P_icF 43 8 rfl rfl rfl g1 (l32 31 rfl) rfl (fun h3 => ?_) (fun h3 => ?_)
  · skip
    refine P_some ?_
    exact H2 (.inr ()) (jk [(1, s)]) trivial
  · skip
    refine P_ld 9 (.ref 6) rfl (fun _ => rfl) ?_
    refine PK_gf 12 (.long (i64 (m.1 210))) rfl rfl kd_6 rfl rfl rfl ?_
    refine P_ld 13 (.long (i64 0)) rfl (fun _ => rfl) ?_
    refine P_op 14 (cmp64 (m.1 210) 0) _ rfl (fun _ => rfl) (o_cmp (KCn_l hm 210 rfl) (l64 0 rfl)) ?_
    refine P_ifE 43 17 rfl rfl rfl cmp64_r rfl (fun h4 => ?_) (fun h4 => ?_)
    · skip
      refine P_ld 18 (.ref 6) rfl (fun _ => rfl) ?_
      refine PK_gf 21 (.ref 7) rfl rfl kd_6 rfl rfl rfl ?_
      refine P_ld 22 (.int (i32 s)) rfl (fun _ => rfl) ?_
      refine PK_lald2 23 5 (m.2 5) rfl rfl rfl g1 rfl ?_
      refine P_ld 24 (.ref 6) rfl (fun _ => rfl) ?_
      refine PK_gf 27 (.long (i64 (m.1 209))) rfl rfl kd_6 rfl rfl rfl ?_
      refine P_op 28 (cmp64 ((m.2 5) s) (m.1 209)) _ rfl (fun _ => rfl) (o_cmp (kE_l (KCn_a hm 5) rfl _) (KCn_l hm 209 rfl)) ?_
      refine P_ifE 37 31 rfl rfl rfl cmp64_r rfl (fun h5 => ?_) (fun h5 => ?_)
      · skip
        refine P_some ?_
        exact H2 (.inl s) (jk []) g1
      · skip
        refine P_inc 40 [(1, .int (i32 (cut (s + 1)))), (0, .ref 6)] rfl rfl (by decide) rfl rfl ?_
        refine P_goto 2 rfl (fun _ => rfl) ?_
        refine P_some ?_
        refine P_lv (b := [(0, .ref 6), (1, .int (i32 (cut (s + 1))))]) rfl rfl ⟨rfl, rfl, trivial⟩ ?_
        exact H1 (cut (s + 1)) (jk []) cut_r
    · skip
      refine P_some ?_
      exact H2 (.inr ()) (jk [(1, s)]) trivial
def kf_tx_wordOfName (m : mR) : Option Int :=
  bnd (whl (kfb_tx_wordOfName_2 m) 0) (sel
    (fun e6 : Int =>
      kfl_tx_wordOfName_31 e6 m)
    (fun e9 : Unit =>
      kfl_tx_wordOfName_43 m))
theorem D_tx_wordOfName (w : wX) (m : mR) (c : Nat → Option am_C) (N D : Nat) (hm : KCn m) : PC w D 53 [.ref 6] (khp m c, N) (QS (FP1 (khp m c, N)) (kf_tx_wordOfName m)) := by
  refine Pc_of (fun D bb => ?_) D
  unfold kf_tx_wordOfName
  show PP bb w D pm_53 (0, [(0, .ref 6)], [], (khp (mO m [] []) c, N), 0, 0) _
  refine P_ld 1 (.int (i32 0)) rfl (fun _ => rfl) ?_
  refine P_sto 2 [(1, .int (i32 0)), (0, .ref 6)] rfl (fun _ => rfl) ?_
  refine P_lv (b := [(0, .ref 6), (1, .int (i32 0))]) rfl rfl ⟨rfl, rfl, trivial⟩ ?_
  refine P_bnd ?_
  refine P_whl (fun bb Q2 H1 H2 s9 j9 hs9 => dh_tx_wordOfName_2 w c N D m hm bb Q2 H1 H2 s9 j9 hs9) bb (fun x0 j hx0 => ?_) 0 (jk []) (l32 0 rfl)
  cases x0 with
  | inl e6 =>
    have q7 := hx0
    have q8 := q7
    show PP bb w D pm_53 (31, [(0, .ref 6), (1, .int (i32 e6))], [], (khp (mO m [] []) c, N), 0, 0) (QS _ (kfl_tx_wordOfName_31 e6 m))
    exact dg_tx_wordOfName_31 w c N D bb e6 q8 m hm (jk [])
  | inr e9 =>
    have q10 := hx0
    show PP bb w D pm_53 (43, [(0, .ref 6), (1, .int (i32 (j 1)))], [], (khp (mO m [] []) c, N), 0, 0) (QS _ (kfl_tx_wordOfName_43 m))
    exact dg_tx_wordOfName_43 w c N D bb m hm (jk [(1, j 1)])
def cs_tx_advance_16 (s : mR) : Prop := KCn s
def cx_tx_advance_16 : (mR) → Prop := (fun (e : mR) => KCn e)
def hd_tx_advance_16 (c : Nat → Option am_C) (N : Nat) (s : mR) (j : Nat → Int) : ag_St af_T := (16, [(0, .ref 6)], [], (khp s c, N), 0, 0)
def ex_tx_advance_16 (c : Nat → Option am_C) (N : Nat) : (mR) → (Nat → Int) → ag_St af_T := (fun (e : mR) (j : Nat → Int) => ((68, [(0, .ref 6)], [], (khp e c, N), 0, 0) : ag_St af_T))
def kfl_tx_advance_255 (m : mR) : Option (Int × Int × mR) :=
  if m.1 206 = (-1) then
    bnd (kf_tx_fail 2 (m.1 207) m) fun y3 =>
    if y3.1 = 0 then
      some (0, 0, y3.2.2)
    else
      some (y3.1, 0, y3.2.2)
  else
    some (0, 0, m)
theorem dg_tx_advance_255 (w : wX) (c : Nat → Option am_C) (N D : Nat) (bb : Nat) (m : mR) (hm : KCn m) (j : Nat → Int) : PP bb w D pm_50 (255, [(0, .ref 6), (1, .int (i32 (j 1))), (2, .int (i32 (j 2)))], [], (khp m c, N), 0, 0) (QS (FX0 c N) (kfl_tx_advance_255 m)) := by
  unfold kfl_tx_advance_255
  show PP bb w D pm_50 (255, [(0, .ref 6), (1, .int (i32 (j 1))), (2, .int (i32 (j 2)))], [], (khp (mO m [] []) c, N), 0, 0) _
  refine P_ld 256 (.ref 6) rfl (fun _ => rfl) ?_
  refine PK_gf 259 (.int (i32 (m.1 206))) rfl rfl kd_6 rfl rfl rfl ?_
  refine P_ld 260 (.int (i32 (-1))) rfl (fun _ => rfl) ?_
  refine P_icE 272 263 rfl rfl rfl (KCn_i hm 206 rfl) (l32 (-1) rfl) rfl (fun h2 => ?_) (fun h2 => ?_)
  · skip
    refine P_ld 264 (.ref 6) rfl (fun _ => rfl) ?_
    refine P_ld 265 (.int (i32 2)) rfl (fun _ => rfl) ?_
    refine P_ld 266 (.ref 6) rfl (fun _ => rfl) ?_
    refine PK_gf 269 (.int (i32 (m.1 207))) rfl rfl kd_6 rfl rfl rfl ?_
    refine P_cx0 272 51 [.ref 6, .int (i32 2), .int (i32 (m.1 207))] [] rfl (fun _ => rfl) rfl rfl (D_tx_fail w m c N D hm 2 (m.1 207) (l32 2 rfl) (KCn_i hm 207 rfl)) (fun y x hm e => ⟨_, rfl, hm, Or.inr ⟨x, e, rfl⟩⟩) (fun y3 n5 => ?_)
    exact P_rx0 rfl rfl n5
  · skip
    exact P_rx0 rfl rfl hm
def kfl_tx_advance_246 (v1 : Int) (m : mR) : Option (Int × Int × mR) :=
  bnd (kf_tx_scanSign v1 m) fun y6 =>
  kfl_tx_advance_255 (mO y6.2 [(206, y6.1)] [])
theorem dg_tx_advance_246 (w : wX) (c : Nat → Option am_C) (N D : Nat) (bb : Nat) (v1 : Int) (q1 : R32 v1) (m : mR) (hm : KCn m) (j : Nat → Int) : PP bb w D pm_50 (246, [(0, .ref 6), (1, .int (i32 v1))], [], (khp m c, N), 0, 0) (QS (FX0 c N) (kfl_tx_advance_246 v1 m)) := by
  unfold kfl_tx_advance_246
  show PP bb w D pm_50 (246, [(0, .ref 6), (1, .int (i32 v1))], [], (khp (mO m [] []) c, N), 0, 0) _
  refine P_ld 247 (.ref 6) rfl (fun _ => rfl) ?_
  refine P_ld 248 (.ref 6) rfl (fun _ => rfl) ?_
  refine P_ld 249 (.int (i32 v1)) rfl (fun _ => rfl) ?_
  refine P_ck1 252 56 [.ref 6, .int (i32 v1)] [.ref 6] rfl (fun _ => rfl) rfl (D_tx_scanSign w m c N D hm v1 q1) (fun y6 h7 n8 => ?_)
  refine PK_pf (l' := [(206, y6.1)]) 255 y6.1 rfl rfl kd_6 rfl rfl rfl rfl rfl rfl rfl ?_
  refine P_lv (b := [(0, .ref 6), (1, .int (i32 v1)), (2, .int (i32 0))]) rfl rfl ⟨rfl, rfl, trivial⟩ ?_
  exact dg_tx_advance_255 w c N D bb (mO y6.2 [(206, y6.1)] []) (KCn_mO n8 rfl rfl ⟨(kV_i rfl h7), trivial⟩ trivial) (jk [(1, v1)])
def kfl_tx_advance_240 (u1 : Int) (m : mR) : Option (Int × Int × mR) :=
  kfl_tx_advance_255 (mO m [(206, u1)] [])
theorem dg_tx_advance_240 (w : wX) (c : Nat → Option am_C) (N D : Nat) (bb : Nat) (u1 : Int) (r1 : R32 u1) (m : mR) (hm : KCn m) (j : Nat → Int) : PP bb w D pm_50 (240, [(0, .ref 6), (1, .int (i32 (j 1))), (2, .int (i32 (j 2)))], [.int (i32 u1), .ref 6], (khp m c, N), 0, 0) (QS (FX0 c N) (kfl_tx_advance_240 u1 m)) := by
  unfold kfl_tx_advance_240
  show PP bb w D pm_50 (240, [(0, .ref 6), (1, .int (i32 (j 1))), (2, .int (i32 (j 2)))], [.int (i32 u1), .ref 6], (khp (mO m [] []) c, N), 0, 0) _
  refine PK_pf (l' := [(206, u1)]) 243 u1 rfl rfl kd_6 rfl rfl rfl rfl rfl rfl rfl ?_
  refine P_goto 255 rfl (fun _ => rfl) ?_
  exact dg_tx_advance_255 w c N D bb (mO m [(206, u1)] []) (KCn_mO hm rfl rfl ⟨(kV_i rfl r1), trivial⟩ trivial) (jk [(1, j 1), (2, j 2)])
def kfl_tx_advance_223 (u0 : Int) (m : mR) : Option (Int × Int × mR) :=
  if u0 = 0 then
    bnd (kf_tx_scanDecimal m) fun y10 =>
    kfl_tx_advance_240 y10.1 y10.2
  else
    bnd (kf_tx_scanHex m) fun y13 =>
    kfl_tx_advance_240 y13.1 y13.2
theorem dg_tx_advance_223 (w : wX) (c : Nat → Option am_C) (N D : Nat) (bb : Nat) (u0 : Int) (r0 : R32 u0) (m : mR) (hm : KCn m) (j : Nat → Int) : PP bb w D pm_50 (223, [(0, .ref 6), (1, .int (i32 (j 1)))], [.int (i32 u0)], (khp m c, N), 0, 0) (QS (FX0 c N) (kfl_tx_advance_223 u0 m)) := by
  unfold kfl_tx_advance_223
  show PP bb w D pm_50 (223, [(0, .ref 6), (1, .int (i32 (j 1)))], [.int (i32 u0)], (khp (mO m [] []) c, N), 0, 0) _
  refine P_sto 224 [(2, .int (i32 u0)), (0, .ref 6), (1, .int (i32 (j 1)))] rfl (fun _ => rfl) ?_
  refine P_ld 225 (.ref 6) rfl (fun _ => rfl) ?_
  refine P_ld 226 (.int (i32 u0)) rfl (fun _ => rfl) ?_
  refine P_ifF 236 229 rfl rfl rfl r0 rfl (fun h9 => ?_) (fun h9 => ?_)
  · skip
    refine P_ld 237 (.ref 6) rfl (fun _ => rfl) ?_
    refine P_ck1 240 55 [.ref 6] [.ref 6] rfl (fun _ => rfl) rfl (D_tx_scanDecimal w m c N D hm) (fun y10 h11 n12 => ?_)
    refine P_lv (b := [(0, .ref 6), (1, .int (i32 (j 1))), (2, .int (i32 u0))]) rfl rfl ⟨rfl, rfl, rfl, trivial⟩ ?_
    exact dg_tx_advance_240 w c N D bb y10.1 h11 y10.2 n12 (jk [(1, j 1), (2, u0)])
  · skip
    refine P_ld 230 (.ref 6) rfl (fun _ => rfl) ?_
    refine P_ck1 233 54 [.ref 6] [.ref 6] rfl (fun _ => rfl) rfl (D_tx_scanHex w m c N D hm) (fun y13 h14 n15 => ?_)
    refine P_goto 240 rfl (fun _ => rfl) ?_
    refine P_lv (b := [(0, .ref 6), (1, .int (i32 (j 1))), (2, .int (i32 u0))]) rfl rfl ⟨rfl, rfl, rfl, trivial⟩ ?_
    exact dg_tx_advance_240 w c N D bb y13.1 h14 y13.2 n15 (jk [(1, j 1), (2, u0)])
def kfl_tx_advance_222 (m : mR) : Option (Int × Int × mR) :=
  kfl_tx_advance_223 0 m
theorem dg_tx_advance_222 (w : wX) (c : Nat → Option am_C) (N D : Nat) (bb : Nat) (m : mR) (hm : KCn m) (j : Nat → Int) : PP bb w D pm_50 (222, [(0, .ref 6), (1, .int (i32 (j 1)))], [], (khp m c, N), 0, 0) (QS (FX0 c N) (kfl_tx_advance_222 m)) := by
  unfold kfl_tx_advance_222
  show PP bb w D pm_50 (222, [(0, .ref 6), (1, .int (i32 (j 1)))], [], (khp (mO m [] []) c, N), 0, 0) _
  refine P_ld 223 (.int (i32 0)) rfl (fun _ => rfl) ?_
  exact dg_tx_advance_223 w c N D bb 0 (l32 0 rfl) m hm (jk [(1, j 1)])
def kfl_tx_advance_171 (v1 : Int) (m : mR) : Option (Int × Int × mR) :=
  if v1 < 48 then
    kfl_tx_advance_246 v1 m
  else
    if (57 : Int) < v1 then
      kfl_tx_advance_246 v1 m
    else
      if v1 = 48 then
        if m.1 204 ≤ cut ((m.1 205) + 1) then
          kfl_tx_advance_222 m
        else
          if (m.2 1) (cut ((m.1 205) + 1)) = 120 then
            kfl_tx_advance_223 1 m
          else
            kfl_tx_advance_222 m
      else
        kfl_tx_advance_222 m
theorem dg_tx_advance_171 (w : wX) (c : Nat → Option am_C) (N D : Nat) (bb : Nat) (v1 : Int) (q1 : R32 v1) (m : mR) (hm : KCn m) (j : Nat → Int) : PP bb w D pm_50 (171, [(0, .ref 6), (1, .int (i32 v1))], [], (khp m c, N), 0, 0) (QS (FX0 c N) (kfl_tx_advance_171 v1 m)) := by
  unfold kfl_tx_advance_171
  show PP bb w D pm_50 (171, [(0, .ref 6), (1, .int (i32 v1))], [], (khp (mO m [] []) c, N), 0, 0) _
  refine P_ld 172 (.int (i32 v1)) rfl (fun _ => rfl) ?_
  refine P_ld 174 (.int (i32 48)) rfl (fun _ => rfl) ?_
  refine P_icF 246 177 rfl rfl rfl q1 (l32 48 rfl) rfl (fun h16 => ?_) (fun h16 => ?_)
  · skip
    exact dg_tx_advance_246 w c N D bb v1 q1 m hm (jk [])
  · skip
    refine P_ld 178 (.int (i32 v1)) rfl (fun _ => rfl) ?_
    refine P_ld 180 (.int (i32 57)) rfl (fun _ => rfl) ?_
    refine P_icF 246 183 rfl rfl rfl q1 (l32 57 rfl) rfl (fun h17 => ?_) (fun h17 => ?_)
    · skip
      exact dg_tx_advance_246 w c N D bb v1 q1 m hm (jk [])
    · skip
      refine P_ld 184 (.int (i32 v1)) rfl (fun _ => rfl) ?_
      refine P_ld 186 (.int (i32 48)) rfl (fun _ => rfl) ?_
      refine P_icE 222 189 rfl rfl rfl q1 (l32 48 rfl) rfl (fun h18 => ?_) (fun h18 => ?_)
      · skip
        refine P_ld 190 (.ref 6) rfl (fun _ => rfl) ?_
        refine PK_gf 193 (.int (i32 (m.1 205))) rfl rfl kd_6 rfl rfl rfl ?_
        refine P_ld 194 (.int (i32 1)) rfl (fun _ => rfl) ?_
        refine P_op 195 (cut ((m.1 205) + 1)) _ rfl (fun _ => rfl) o_add ?_
        refine P_ld 196 (.ref 6) rfl (fun _ => rfl) ?_
        refine PK_gf 199 (.int (i32 (m.1 204))) rfl rfl kd_6 rfl rfl rfl ?_
        refine P_icF 222 202 rfl rfl rfl cut_r (KCn_i hm 204 rfl) rfl (fun h19 => ?_) (fun h19 => ?_)
        · skip
          exact dg_tx_advance_222 w c N D bb m hm (jk [(1, v1)])
        · skip
          refine P_ld 203 (.ref 6) rfl (fun _ => rfl) ?_
          refine PK_gf 206 (.ref 2) rfl rfl kd_6 rfl rfl rfl ?_
          refine P_ld 207 (.ref 6) rfl (fun _ => rfl) ?_
          refine PK_gf 210 (.int (i32 (m.1 205))) rfl rfl kd_6 rfl rfl rfl ?_
          refine P_ld 211 (.int (i32 1)) rfl (fun _ => rfl) ?_
          refine P_op 212 (cut ((m.1 205) + 1)) _ rfl (fun _ => rfl) o_add ?_
          refine PK_bald2 213 1 (m.2 1) rfl rfl rfl cut_r rfl ?_
          refine P_ld 215 (.int (i32 120)) rfl (fun _ => rfl) ?_
          refine P_icE 222 218 rfl rfl rfl (kE_i (KCn_a hm 1) rfl _) (l32 120 rfl) rfl (fun h20 => ?_) (fun h20 => ?_)
          · skip
            refine P_ld 219 (.int (i32 1)) rfl (fun _ => rfl) ?_
            refine P_goto 223 rfl (fun _ => rfl) ?_
            exact dg_tx_advance_223 w c N D bb 1 (l32 1 rfl) m hm (jk [(1, v1)])
          · skip
            exact dg_tx_advance_222 w c N D bb m hm (jk [(1, v1)])
      · skip
        exact dg_tx_advance_222 w c N D bb m hm (jk [(1, v1)])
def kfl_tx_advance_165 (u1 : Int) (m : mR) : Option (Int × Int × mR) :=
  kfl_tx_advance_255 (mO m [(206, u1)] [])
theorem dg_tx_advance_165 (w : wX) (c : Nat → Option am_C) (N D : Nat) (bb : Nat) (u1 : Int) (r1 : R32 u1) (m : mR) (hm : KCn m) (j : Nat → Int) : PP bb w D pm_50 (165, [(0, .ref 6), (1, .int (i32 (j 1)))], [.int (i32 u1), .ref 6], (khp m c, N), 0, 0) (QS (FX0 c N) (kfl_tx_advance_165 u1 m)) := by
  unfold kfl_tx_advance_165
  show PP bb w D pm_50 (165, [(0, .ref 6), (1, .int (i32 (j 1)))], [.int (i32 u1), .ref 6], (khp (mO m [] []) c, N), 0, 0) _
  refine PK_pf (l' := [(206, u1)]) 168 u1 rfl rfl kd_6 rfl rfl rfl rfl rfl rfl rfl ?_
  refine P_goto 255 rfl (fun _ => rfl) ?_
  refine P_lv (b := [(0, .ref 6), (1, .int (i32 (j 1))), (2, .int (i32 0))]) rfl rfl ⟨rfl, rfl, trivial⟩ ?_
  exact dg_tx_advance_255 w c N D bb (mO m [(206, u1)] []) (KCn_mO hm rfl rfl ⟨(kV_i rfl r1), trivial⟩ trivial) (jk [(1, j 1)])
def kfl_tx_advance_104 (u0 : Int) (m : mR) : Option (Int × Int × mR) :=
  if m.1 205 < m.1 204 then
    if u0 < 97 then
      kfl_tx_advance_171 u0 m
    else
      if (122 : Int) < u0 then
        kfl_tx_advance_171 u0 m
      else
        bnd (kf_tx_scanName m) fun y24 =>
        if cut ((y24.2.1 205) - (y24.2.1 207)) ≤ 16 then
          bnd (kf_tx_wordOfName y24.2) fun y28 =>
          kfl_tx_advance_165 y28 y24.2
        else
          kfl_tx_advance_165 (-1) y24.2
  else
    kfl_tx_advance_255 (mO m [(206, 258)] [])
theorem dg_tx_advance_104 (w : wX) (c : Nat → Option am_C) (N D : Nat) (bb : Nat) (u0 : Int) (r0 : R32 u0) (m : mR) (hm : KCn m) (j : Nat → Int) : PP bb w D pm_50 (104, [(0, .ref 6)], [.int (i32 u0)], (khp m c, N), 0, 0) (QS (FX0 c N) (kfl_tx_advance_104 u0 m)) := by
  unfold kfl_tx_advance_104
  show PP bb w D pm_50 (104, [(0, .ref 6)], [.int (i32 u0)], (khp (mO m [] []) c, N), 0, 0) _
  refine P_sto 105 [(1, .int (i32 u0)), (0, .ref 6)] rfl (fun _ => rfl) ?_
  refine P_ld 106 (.ref 6) rfl (fun _ => rfl) ?_
  refine PK_gf 109 (.int (i32 (m.1 205))) rfl rfl kd_6 rfl rfl rfl ?_
  refine P_ld 110 (.ref 6) rfl (fun _ => rfl) ?_
  refine PK_gf 113 (.int (i32 (m.1 204))) rfl rfl kd_6 rfl rfl rfl ?_
  refine P_icF 126 116 rfl rfl rfl (KCn_i hm 205 rfl) (KCn_i hm 204 rfl) rfl (fun h21 => ?_) (fun h21 => ?_)
  · skip
    refine P_ld 127 (.int (i32 u0)) rfl (fun _ => rfl) ?_
    refine P_ld 129 (.int (i32 97)) rfl (fun _ => rfl) ?_
    refine P_icF 171 132 rfl rfl rfl r0 (l32 97 rfl) rfl (fun h22 => ?_) (fun h22 => ?_)
    · skip
      refine P_lv (b := [(0, .ref 6), (1, .int (i32 u0))]) rfl rfl ⟨rfl, rfl, trivial⟩ ?_
      exact dg_tx_advance_171 w c N D bb u0 r0 m hm (jk [])
    · skip
      refine P_ld 133 (.int (i32 u0)) rfl (fun _ => rfl) ?_
      refine P_ld 135 (.int (i32 122)) rfl (fun _ => rfl) ?_
      refine P_icF 171 138 rfl rfl rfl r0 (l32 122 rfl) rfl (fun h23 => ?_) (fun h23 => ?_)
      · skip
        refine P_lv (b := [(0, .ref 6), (1, .int (i32 u0))]) rfl rfl ⟨rfl, rfl, trivial⟩ ?_
        exact dg_tx_advance_171 w c N D bb u0 r0 m hm (jk [])
      · skip
        refine P_ld 139 (.ref 6) rfl (fun _ => rfl) ?_
        refine P_ck0 142 52 [.ref 6] [] rfl (fun _ => rfl) rfl (D_tx_scanName w m c N D hm) (fun y24 n26 => ?_)
        refine P_ld 143 (.ref 6) rfl (fun _ => rfl) ?_
        refine P_ld 144 (.ref 6) rfl (fun _ => rfl) ?_
        refine PK_gf 147 (.int (i32 (y24.2.1 205))) rfl rfl kd_6 rfl rfl rfl ?_
        refine P_ld 148 (.ref 6) rfl (fun _ => rfl) ?_
        refine PK_gf 151 (.int (i32 (y24.2.1 207))) rfl rfl kd_6 rfl rfl rfl ?_
        refine P_op 152 (cut ((y24.2.1 205) - (y24.2.1 207))) _ rfl (fun _ => rfl) o_sub ?_
        refine P_ld 154 (.int (i32 16)) rfl (fun _ => rfl) ?_
        refine P_icF 161 157 rfl rfl rfl cut_r (l32 16 rfl) rfl (fun h27 => ?_) (fun h27 => ?_)
        · skip
          refine P_ld 162 (.ref 6) rfl (fun _ => rfl) ?_
          refine P_cp1 165 53 [.ref 6] [.ref 6] rfl (fun _ => rfl) rfl (D_tx_wordOfName w y24.2 c N D n26) (fun y28 h29 => ?_)
          refine P_lv (b := [(0, .ref 6), (1, .int (i32 u0))]) rfl rfl ⟨rfl, rfl, trivial⟩ ?_
          exact dg_tx_advance_165 w c N D bb y28 h29 y24.2 n26 (jk [(1, u0)])
        · skip
          refine P_ld 158 (.int (i32 (-1))) rfl (fun _ => rfl) ?_
          refine P_goto 165 rfl (fun _ => rfl) ?_
          refine P_lv (b := [(0, .ref 6), (1, .int (i32 u0))]) rfl rfl ⟨rfl, rfl, trivial⟩ ?_
          exact dg_tx_advance_165 w c N D bb (-1) (l32 (-1) rfl) y24.2 n26 (jk [(1, u0)])
  · skip
    refine P_ld 117 (.ref 6) rfl (fun _ => rfl) ?_
    refine P_ld 120 (.int (i32 258)) rfl (fun _ => rfl) ?_
    refine PK_pf (l' := [(206, 258)]) 123 258 rfl rfl kd_6 rfl rfl rfl rfl rfl rfl rfl ?_
    refine P_goto 255 rfl (fun _ => rfl) ?_
    refine P_lv (b := [(0, .ref 6), (1, .int (i32 u0)), (2, .int (i32 0))]) rfl rfl ⟨rfl, rfl, trivial⟩ ?_
    exact dg_tx_advance_255 w c N D bb (mO m [(206, 258)] []) (KCn_mO hm rfl rfl ⟨(kV_i rfl (l32 258 rfl)), trivial⟩ trivial) (jk [(1, u0)])
def kfl_tx_advance_68 (m : mR) : Option (Int × Int × mR) :=
  if m.1 204 ≤ m.1 205 then
    kfl_tx_advance_104 0 (mO m [(207, m.1 205)] [])
  else
    kfl_tx_advance_104 (and32 ((m.2 1) (m.1 205)) 255) (mO m [(207, m.1 205)] [])
theorem dg_tx_advance_68 (w : wX) (c : Nat → Option am_C) (N D : Nat) (bb : Nat) (m : mR) (hm : KCn m) (j : Nat → Int) : PP bb w D pm_50 (68, [(0, .ref 6)], [], (khp m c, N), 0, 0) (QS (FX0 c N) (kfl_tx_advance_68 m)) := by
  unfold kfl_tx_advance_68
  show PP bb w D pm_50 (68, [(0, .ref 6)], [], (khp (mO m [] []) c, N), 0, 0) _
  refine P_ld 69 (.ref 6) rfl (fun _ => rfl) ?_
  refine P_ld 70 (.ref 6) rfl (fun _ => rfl) ?_
  refine PK_gf 73 (.int (i32 (m.1 205))) rfl rfl kd_6 rfl rfl rfl ?_
  refine PK_pf (l' := [(207, m.1 205)]) 76 (m.1 205) rfl rfl kd_6 rfl rfl rfl rfl rfl rfl rfl ?_
  refine P_ld 77 (.ref 6) rfl (fun _ => rfl) ?_
  refine PK_gf 80 (.int (i32 (m.1 205))) rfl rfl kd_6 rfl rfl rfl ?_
  refine P_ld 81 (.ref 6) rfl (fun _ => rfl) ?_
  refine PK_gf 84 (.int (i32 (m.1 204))) rfl rfl kd_6 rfl rfl rfl ?_
  refine P_icF 103 87 rfl rfl rfl (KCn_i hm 205 rfl) (KCn_i hm 204 rfl) rfl (fun h31 => ?_) (fun h31 => ?_)
  · skip
    refine P_ld 104 (.int (i32 0)) rfl (fun _ => rfl) ?_
    exact dg_tx_advance_104 w c N D bb 0 (l32 0 rfl) (mO m [(207, m.1 205)] []) (KCn_mO hm rfl rfl ⟨(kV_i rfl (KCn_i hm 205 rfl)), trivial⟩ trivial) (jk [])
  · skip
    refine P_ld 88 (.ref 6) rfl (fun _ => rfl) ?_
    refine PK_gf 91 (.ref 2) rfl rfl kd_6 rfl rfl rfl ?_
    refine P_ld 92 (.ref 6) rfl (fun _ => rfl) ?_
    refine PK_gf 95 (.int (i32 (m.1 205))) rfl rfl kd_6 rfl rfl rfl ?_
    refine PK_bald2 96 1 (m.2 1) rfl rfl rfl (KCn_i hm 205 rfl) rfl ?_
    refine P_ld 99 (.int (i32 255)) rfl (fun _ => rfl) ?_
    refine P_op 100 (and32 ((m.2 1) (m.1 205)) 255) _ rfl (fun _ => rfl) (i32_of _).symm ?_
    refine P_goto 104 rfl (fun _ => rfl) ?_
    exact dg_tx_advance_104 w c N D bb (and32 ((m.2 1) (m.1 205)) 255) t32_r (mO m [(207, m.1 205)] []) (KCn_mO hm rfl rfl ⟨(kV_i rfl (KCn_i hm 205 rfl)), trivial⟩ trivial) (jk [])
def kfl_tx_advance_55 (m : mR) : Option (Sum (mR) (mR)) :=
  some (.inl (mO m [(205, cut ((m.1 205) + 1))] []))
theorem dg_tx_advance_55 (w : wX) (c : Nat → Option am_C) (N D : Nat) (bb : Nat) (m : mR) (hm : KCn m) (j : Nat → Int) (Q2 : Sum (mR) (mR) → ag_Re af_T → Prop) (H1 : ∀ s j, cs_tx_advance_16 s → PP bb w D pm_50 (hd_tx_advance_16 c N s j) (Q2 (.inl s))) (H2 : ∀ x j, cx_tx_advance_16 x → PP bb w D pm_50 (ex_tx_advance_16 c N x j) (Q2 (.inr x))) : PP bb w D pm_50 (55, [(0, .ref 6)], [], (khp m c, N), 0, 0) (QS Q2 (kfl_tx_advance_55 m)) := by
  unfold kfl_tx_advance_55
  show PP bb w D pm_50 (55, [(0, .ref 6)], [], (khp (mO m [] []) c, N), 0, 0) _
  refine P_ld 56 (.ref 6) rfl (fun _ => rfl) ?_
  refine P_ld 57 (.ref 6) rfl (fun _ => rfl) ?_
  refine PK_gf 60 (.int (i32 (m.1 205))) rfl rfl kd_6 rfl rfl rfl ?_
  refine P_ld 61 (.int (i32 1)) rfl (fun _ => rfl) ?_
  refine P_op 62 (cut ((m.1 205) + 1)) _ rfl (fun _ => rfl) o_add ?_
  refine PK_pf (l' := [(205, cut ((m.1 205) + 1))]) 65 (cut ((m.1 205) + 1)) rfl rfl kd_6 rfl rfl rfl rfl rfl rfl rfl ?_
  refine P_goto 16 rfl (fun _ => rfl) ?_
  refine P_some ?_
  exact H1 (mO m [(205, cut ((m.1 205) + 1))] []) (jk []) (KCn_mO hm rfl rfl ⟨(kV_i rfl cut_r), trivial⟩ trivial)
def kfb_tx_advance_16 (s : mR) : Option (Sum (mR) (mR)) :=
  if s.1 204 ≤ s.1 205 then
    some (.inr s)
  else
    if (s.2 1) (s.1 205) = 32 then
      kfl_tx_advance_55 s
    else
      if (s.2 1) (s.1 205) = 10 then
        kfl_tx_advance_55 s
      else
        some (.inr s)
theorem dh_tx_advance_16 (w : wX) (c : Nat → Option am_C) (N D : Nat) (bb : Nat) (Q2 : Sum (mR) (mR) → ag_Re af_T → Prop) (H1 : ∀ s j, cs_tx_advance_16 s → PP bb w D pm_50 (hd_tx_advance_16 c N s j) (Q2 (.inl s))) (H2 : ∀ x j, cx_tx_advance_16 x → PP bb w D pm_50 (ex_tx_advance_16 c N x j) (Q2 (.inr x))) (s : mR) (j : Nat → Int) (hs : cs_tx_advance_16 s) : PP (bb + 1) w D pm_50 (hd_tx_advance_16 c N s j) (QS Q2 (kfb_tx_advance_16 s)) := by
  have gm := hs
  unfold kfb_tx_advance_16
  show PP (bb + 1) w D pm_50 (16, [(0, .ref 6)], [], (khp (mO s [] []) c, N), 0, 0) _
  refine P1_ld 17 (.ref 6) rfl (fun _ => rfl) ?_
  refine PK_gf 20 (.int (i32 (s.1 205))) rfl rfl kd_6 rfl rfl rfl ?_
  refine P_ld 21 (.ref 6) rfl (fun _ => rfl) ?_
  refine PK_gf 24 (.int (i32 (s.1 204))) rfl rfl kd_6 rfl rfl rfl ?_
  refine P_icF 68 27 rfl rfl rfl (KCn_i gm 205 rfl) (KCn_i gm 204 rfl) rfl (fun h33 => ?_) (fun h33 => ?_)
  · skip
    refine P_some ?_
    exact H2 s (jk []) gm
  · skip
    refine P_ld 28 (.ref 6) rfl (fun _ => rfl) ?_
    refine PK_gf 31 (.ref 2) rfl rfl kd_6 rfl rfl rfl ?_
    refine P_ld 32 (.ref 6) rfl (fun _ => rfl) ?_
    refine PK_gf 35 (.int (i32 (s.1 205))) rfl rfl kd_6 rfl rfl rfl ?_
    refine PK_bald2 36 1 (s.2 1) rfl rfl rfl (KCn_i gm 205 rfl) rfl ?_
    refine P_ld 38 (.int (i32 32)) rfl (fun _ => rfl) ?_
    refine P_icF 55 41 rfl rfl rfl (kE_i (KCn_a gm 1) rfl _) (l32 32 rfl) rfl (fun h34 => ?_) (fun h34 => ?_)
    · skip
      exact dg_tx_advance_55 w c N D bb s gm (jk []) Q2 H1 H2
    · skip
      refine P_ld 42 (.ref 6) rfl (fun _ => rfl) ?_
      refine PK_gf 45 (.ref 2) rfl rfl kd_6 rfl rfl rfl ?_
      refine P_ld 46 (.ref 6) rfl (fun _ => rfl) ?_
      refine PK_gf 49 (.int (i32 (s.1 205))) rfl rfl kd_6 rfl rfl rfl ?_
      refine PK_bald2 50 1 (s.2 1) rfl rfl rfl (KCn_i gm 205 rfl) rfl ?_
      refine P_ld 52 (.int (i32 10)) rfl (fun _ => rfl) ?_
      refine P_icE 68 55 rfl rfl rfl (kE_i (KCn_a gm 1) rfl _) (l32 10 rfl) rfl (fun h35 => ?_) (fun h35 => ?_)
      · skip
        exact dg_tx_advance_55 w c N D bb s gm (jk []) Q2 H1 H2
      · skip
        refine P_some ?_
        exact H2 s (jk []) gm
def kf_tx_advance (m : mR) : Option (Int × Int × mR) :=
  if m.1 213 = 0 then
    bnd (whl kfb_tx_advance_16 m) (fun e37 : mR =>
      kfl_tx_advance_68 e37)
  else
    bnd (kf_tx_fail 4 (m.1 207) m) fun y40 =>
    if y40.1 = 0 then
      bnd (whl kfb_tx_advance_16 y40.2.2) (fun e43 : mR =>
        kfl_tx_advance_68 e43)
    else
      some (y40.1, 0, y40.2.2)
theorem D_tx_advance (w : wX) (m : mR) (c : Nat → Option am_C) (N D : Nat) (hm : KCn m) : PC w D 50 [.ref 6] (khp m c, N) (QS (FX0 c N) (kf_tx_advance m)) := by
  refine Pc_of (fun D bb => ?_) D
  unfold kf_tx_advance
  show PP bb w D pm_50 (0, [(0, .ref 6)], [], (khp (mO m [] []) c, N), 0, 0) _
  refine P_ld 1 (.ref 6) rfl (fun _ => rfl) ?_
  refine PK_gf 4 (.int (i32 (m.1 213))) rfl rfl kd_6 rfl rfl rfl ?_
  refine P_ifF 16 7 rfl rfl rfl (KCn_i hm 213 rfl) rfl (fun h36 => ?_) (fun h36 => ?_)
  · skip
    refine P_bnd ?_
    refine P_whl (fun bb Q2 H1 H2 s9 j9 hs9 => dh_tx_advance_16 w c N D bb Q2 H1 H2 s9 j9 hs9) bb (fun e37 j q38 => ?_) m (jk []) hm
    have q39 := q38
    show PP bb w D pm_50 (68, [(0, .ref 6)], [], (khp (mO e37 [] []) c, N), 0, 0) (QS _ (kfl_tx_advance_68 e37))
    exact dg_tx_advance_68 w c N D bb e37 q39 (jk [])
  · skip
    refine P_ld 8 (.ref 6) rfl (fun _ => rfl) ?_
    refine P_ld 9 (.int (i32 4)) rfl (fun _ => rfl) ?_
    refine P_ld 10 (.ref 6) rfl (fun _ => rfl) ?_
    refine PK_gf 13 (.int (i32 (m.1 207))) rfl rfl kd_6 rfl rfl rfl ?_
    refine P_cx0 16 51 [.ref 6, .int (i32 4), .int (i32 (m.1 207))] [] rfl (fun _ => rfl) rfl rfl (D_tx_fail w m c N D hm 4 (m.1 207) (l32 4 rfl) (KCn_i hm 207 rfl)) (fun y x hm e => ⟨_, rfl, hm, Or.inr ⟨x, e, rfl⟩⟩) (fun y40 n42 => ?_)
    refine P_bnd ?_
    refine P_whl (fun bb Q2 H1 H2 s9 j9 hs9 => dh_tx_advance_16 w c N D bb Q2 H1 H2 s9 j9 hs9) bb (fun e43 j q44 => ?_) y40.2.2 (jk []) n42
    have q45 := q44
    show PP bb w D pm_50 (68, [(0, .ref 6)], [], (khp (mO e43 [] []) c, N), 0, 0) (QS _ (kfl_tx_advance_68 e43))
    exact dg_tx_advance_68 w c N D bb e43 q45 (jk [])
def kf_tx_open (v1 : Int) (m : mR) : Option (Int × Int × mR) :=
  bnd (kf_tx_makeGiven_b20001 302 0 (mO m [(203, 0), (204, v1), (205, 0), (211, 0), (212, (-1)), (213, 0)] [])) fun y1 =>
  bnd (kf_tx_makeGiven_b20002 302 1 y1.2) fun y4 =>
  bnd (kf_tx_makeGiven_b20003 302 2 y4.2) fun y7 =>
  bnd (kf_tx_makeGiven_b20004 304 16 y7.2) fun y10 =>
  bnd (kf_tx_makeGiven_b20005 304 17 y10.2) fun y13 =>
  bnd (kf_tx_advance y13.2) fun y16 =>
  if y16.1 = 0 then
    some (0, 0, y16.2.2)
  else
    some (y16.1, 0, y16.2.2)
theorem D_tx_open (w : wX) (m : mR) (c : Nat → Option am_C) (N D : Nat) (hm : KCn m) (v1 : Int) (q1 : R32 v1) : PC w D 47 [.ref 6, .int (i32 v1)] (khp m c, N) (QS (FX0 c N) (kf_tx_open v1 m)) := by
  refine Pc_of (fun D bb => ?_) D
  unfold kf_tx_open
  show PP bb w D pm_47 (0, [(0, .ref 6), (1, .int (i32 v1))], [], (khp (mO m [] []) c, N), 0, 0) _
  refine P_ld 1 (.ref 6) rfl (fun _ => rfl) ?_
  refine P_ld 2 (.int (i32 v1)) rfl (fun _ => rfl) ?_
  refine PK_pf (l' := [(204, v1)]) 5 v1 rfl rfl kd_6 rfl rfl rfl rfl rfl rfl rfl ?_
  refine P_ld 6 (.ref 6) rfl (fun _ => rfl) ?_
  refine P_ld 7 (.int (i32 0)) rfl (fun _ => rfl) ?_
  refine PK_pf (l' := [(204, v1), (205, 0)]) 10 0 rfl rfl kd_6 rfl rfl rfl rfl rfl rfl rfl ?_
  refine P_ld 11 (.ref 6) rfl (fun _ => rfl) ?_
  refine P_ld 12 (.int (i32 0)) rfl (fun _ => rfl) ?_
  refine PK_pf (l' := [(203, 0), (204, v1), (205, 0)]) 15 0 rfl rfl kd_6 rfl rfl rfl rfl rfl rfl rfl ?_
  refine P_ld 16 (.ref 6) rfl (fun _ => rfl) ?_
  refine P_ld 17 (.int (i32 0)) rfl (fun _ => rfl) ?_
  refine PK_pf (l' := [(203, 0), (204, v1), (205, 0), (211, 0)]) 20 0 rfl rfl kd_6 rfl rfl rfl rfl rfl rfl rfl ?_
  refine P_ld 21 (.ref 6) rfl (fun _ => rfl) ?_
  refine P_ld 22 (.int (i32 (-1))) rfl (fun _ => rfl) ?_
  refine PK_pf (l' := [(203, 0), (204, v1), (205, 0), (211, 0), (212, (-1))]) 25 (-1) rfl rfl kd_6 rfl rfl rfl rfl rfl rfl rfl ?_
  refine P_ld 26 (.ref 6) rfl (fun _ => rfl) ?_
  refine P_ld 27 (.int (i32 0)) rfl (fun _ => rfl) ?_
  refine PK_pf (l' := [(203, 0), (204, v1), (205, 0), (211, 0), (212, (-1)), (213, 0)]) 30 0 rfl rfl kd_6 rfl rfl rfl rfl rfl rfl rfl ?_
  refine P_ld 31 (.ref 6) rfl (fun _ => rfl) ?_
  refine P_ld 33 (.ref 1000003) rfl (fun _ => rfl) ?_
  refine P_ld 36 (.int (i32 302)) rfl (fun _ => rfl) ?_
  refine P_ld 37 (.int (i32 0)) rfl (fun _ => rfl) ?_
  refine P_ck0 40 48 [.ref 6, .ref 1000003, .int (i32 302), .int (i32 0)] [] rfl (fun _ => rfl) rfl (D_tx_makeGiven_b20001 w (mO m [(203, 0), (204, v1), (205, 0), (211, 0), (212, (-1)), (213, 0)] []) c N D (KCn_mO hm rfl rfl ⟨(kV_i rfl (l32 0 rfl)), (kV_i rfl q1), (kV_i rfl (l32 0 rfl)), (kV_i rfl (l32 0 rfl)), (kV_i rfl (l32 (-1) rfl)), (kV_i rfl (l32 0 rfl)), trivial⟩ trivial) 302 0 (l32 302 rfl) (l32 0 rfl)) (fun y1 n3 => ?_)
  refine P_ld 41 (.ref 6) rfl (fun _ => rfl) ?_
  refine P_ld 43 (.ref 1000005) rfl (fun _ => rfl) ?_
  refine P_ld 46 (.int (i32 302)) rfl (fun _ => rfl) ?_
  refine P_ld 47 (.int (i32 1)) rfl (fun _ => rfl) ?_
  refine P_ck0 50 48 [.ref 6, .ref 1000005, .int (i32 302), .int (i32 1)] [] rfl (fun _ => rfl) rfl (D_tx_makeGiven_b20002 w y1.2 c N D n3 302 1 (l32 302 rfl) (l32 1 rfl)) (fun y4 n6 => ?_)
  refine P_ld 51 (.ref 6) rfl (fun _ => rfl) ?_
  refine P_ld 53 (.ref 1000007) rfl (fun _ => rfl) ?_
  refine P_ld 56 (.int (i32 302)) rfl (fun _ => rfl) ?_
  refine P_ld 57 (.int (i32 2)) rfl (fun _ => rfl) ?_
  refine P_ck0 60 48 [.ref 6, .ref 1000007, .int (i32 302), .int (i32 2)] [] rfl (fun _ => rfl) rfl (D_tx_makeGiven_b20003 w y4.2 c N D n6 302 2 (l32 302 rfl) (l32 2 rfl)) (fun y7 n9 => ?_)
  refine P_ld 61 (.ref 6) rfl (fun _ => rfl) ?_
  refine P_ld 63 (.ref 1000009) rfl (fun _ => rfl) ?_
  refine P_ld 66 (.int (i32 304)) rfl (fun _ => rfl) ?_
  refine P_ld 68 (.int (i32 16)) rfl (fun _ => rfl) ?_
  refine P_ck0 71 48 [.ref 6, .ref 1000009, .int (i32 304), .int (i32 16)] [] rfl (fun _ => rfl) rfl (D_tx_makeGiven_b20004 w y7.2 c N D n9 304 16 (l32 304 rfl) (l32 16 rfl)) (fun y10 n12 => ?_)
  refine P_ld 72 (.ref 6) rfl (fun _ => rfl) ?_
  refine P_ld 74 (.ref 1000011) rfl (fun _ => rfl) ?_
  refine P_ld 77 (.int (i32 304)) rfl (fun _ => rfl) ?_
  refine P_ld 79 (.int (i32 17)) rfl (fun _ => rfl) ?_
  refine P_ck0 82 48 [.ref 6, .ref 1000011, .int (i32 304), .int (i32 17)] [] rfl (fun _ => rfl) rfl (D_tx_makeGiven_b20005 w y10.2 c N D n12 304 17 (l32 304 rfl) (l32 17 rfl)) (fun y13 n15 => ?_)
  refine P_ld 83 (.ref 6) rfl (fun _ => rfl) ?_
  refine P_cx0 86 50 [.ref 6] [] rfl (fun _ => rfl) rfl rfl (D_tx_advance w y13.2 c N D n15) (fun y x hm e => ⟨_, rfl, hm, Or.inr ⟨x, e, rfl⟩⟩) (fun y16 n18 => ?_)
  exact P_rx0 rfl rfl n18
def kfl_tx_refuse_13 (u1 : Int) (m : mR) : Option (Int × Int × mR) :=
  some (1, 0, (mO m [(211, u1), (212, m.1 207)] []))
theorem dg_tx_refuse_13 (w : wX) (c : Nat → Option am_C) (N D : Nat) (bb : Nat) (u1 : Int) (r1 : R32 u1) (m : mR) (hm : KCn m) (j : Nat → Int) : PP bb w D pm_76 (13, [(0, .ref 6)], [.int (i32 u1), .ref 6], (khp m c, N), 0, 0) (QS (FX0 c N) (kfl_tx_refuse_13 u1 m)) := by
  unfold kfl_tx_refuse_13
  show PP bb w D pm_76 (13, [(0, .ref 6)], [.int (i32 u1), .ref 6], (khp (mO m [] []) c, N), 0, 0) _
  refine PK_pf (l' := [(211, u1)]) 16 u1 rfl rfl kd_6 rfl rfl rfl rfl rfl rfl rfl ?_
  refine P_ld 17 (.ref 6) rfl (fun _ => rfl) ?_
  refine P_ld 18 (.ref 6) rfl (fun _ => rfl) ?_
  refine PK_gf 21 (.int (i32 (m.1 207))) rfl rfl kd_6 rfl rfl rfl ?_
  refine PK_pf (l' := [(211, u1), (212, m.1 207)]) 24 (m.1 207) rfl rfl kd_6 rfl rfl rfl rfl rfl rfl rfl ?_
  exact P_thr rfl ⟨_, rfl, (KCn_mO hm rfl rfl ⟨(kV_i rfl r1), (kV_i rfl (KCn_i hm 207 rfl)), trivial⟩ trivial), Or.inr ⟨0, rfl, rfl⟩⟩
def kf_tx_refuse (m : mR) : Option (Int × Int × mR) :=
  if m.1 213 = 0 then
    kfl_tx_refuse_13 1 m
  else
    kfl_tx_refuse_13 4 m
theorem D_tx_refuse (w : wX) (m : mR) (c : Nat → Option am_C) (N D : Nat) (hm : KCn m) : PC w D 76 [.ref 6] (khp m c, N) (QS (FX0 c N) (kf_tx_refuse m)) := by
  refine Pc_of (fun D bb => ?_) D
  unfold kf_tx_refuse
  show PP bb w D pm_76 (0, [(0, .ref 6)], [], (khp (mO m [] []) c, N), 0, 0) _
  refine P_ld 1 (.ref 6) rfl (fun _ => rfl) ?_
  refine P_ld 2 (.ref 6) rfl (fun _ => rfl) ?_
  refine PK_gf 5 (.int (i32 (m.1 213))) rfl rfl kd_6 rfl rfl rfl ?_
  refine P_ifF 12 8 rfl rfl rfl (KCn_i hm 213 rfl) rfl (fun h1 => ?_) (fun h1 => ?_)
  · skip
    refine P_ld 13 (.int (i32 1)) rfl (fun _ => rfl) ?_
    exact dg_tx_refuse_13 w c N D bb 1 (l32 1 rfl) m hm (jk [])
  · skip
    refine P_ld 9 (.int (i32 4)) rfl (fun _ => rfl) ?_
    refine P_goto 13 rfl (fun _ => rfl) ?_
    exact dg_tx_refuse_13 w c N D bb 4 (l32 4 rfl) m hm (jk [])
def kfl_tx_expect_12 (m : mR) : Option (Int × Int × mR) :=
  bnd (kf_tx_advance m) fun y1 =>
  if y1.1 = 0 then
    some (0, 0, y1.2.2)
  else
    some (y1.1, 0, y1.2.2)
theorem dg_tx_expect_12 (w : wX) (c : Nat → Option am_C) (N D : Nat) (bb : Nat) (m : mR) (hm : KCn m) (j : Nat → Int) : PP bb w D pm_78 (12, [(0, .ref 6), (1, .int (i32 (j 1)))], [], (khp m c, N), 0, 0) (QS (FX0 c N) (kfl_tx_expect_12 m)) := by
  unfold kfl_tx_expect_12
  show PP bb w D pm_78 (12, [(0, .ref 6), (1, .int (i32 (j 1)))], [], (khp (mO m [] []) c, N), 0, 0) _
  refine P_ld 13 (.ref 6) rfl (fun _ => rfl) ?_
  refine P_cx0 16 50 [.ref 6] [] rfl (fun _ => rfl) rfl rfl (D_tx_advance w m c N D hm) (fun y x hm e => ⟨_, rfl, hm, Or.inr ⟨x, e, rfl⟩⟩) (fun y1 n3 => ?_)
  exact P_rx0 rfl rfl n3
def kf_tx_expect (v1 : Int) (m : mR) : Option (Int × Int × mR) :=
  if m.1 206 = v1 then
    kfl_tx_expect_12 m
  else
    bnd (kf_tx_refuse m) fun y5 =>
    if y5.1 = 0 then
      kfl_tx_expect_12 y5.2.2
    else
      some (y5.1, 0, y5.2.2)
theorem D_tx_expect (w : wX) (m : mR) (c : Nat → Option am_C) (N D : Nat) (hm : KCn m) (v1 : Int) (q1 : R32 v1) : PC w D 78 [.ref 6, .int (i32 v1)] (khp m c, N) (QS (FX0 c N) (kf_tx_expect v1 m)) := by
  refine Pc_of (fun D bb => ?_) D
  unfold kf_tx_expect
  show PP bb w D pm_78 (0, [(0, .ref 6), (1, .int (i32 v1))], [], (khp (mO m [] []) c, N), 0, 0) _
  refine P_ld 1 (.ref 6) rfl (fun _ => rfl) ?_
  refine PK_gf 4 (.int (i32 (m.1 206))) rfl rfl kd_6 rfl rfl rfl ?_
  refine P_ld 5 (.int (i32 v1)) rfl (fun _ => rfl) ?_
  refine P_icF 12 8 rfl rfl rfl (KCn_i hm 206 rfl) q1 rfl (fun h4 => ?_) (fun h4 => ?_)
  · skip
    exact dg_tx_expect_12 w c N D bb m hm (jk [(1, v1)])
  · skip
    refine P_ld 9 (.ref 6) rfl (fun _ => rfl) ?_
    refine P_cx0 12 76 [.ref 6] [] rfl (fun _ => rfl) rfl rfl (D_tx_refuse w m c N D hm) (fun y x hm e => ⟨_, rfl, hm, Or.inr ⟨x, e, rfl⟩⟩) (fun y5 n7 => ?_)
    exact dg_tx_expect_12 w c N D bb y5.2.2 n7 (jk [(1, v1)])
def kf_rd_openControl (m : mR) : Option (Int × Int × mR) :=
  bnd (kf_tx_expect 319 m) fun y1 =>
  if y1.1 = 0 then
    bnd (kf_tx_expect 123 y1.2.2) fun y4 =>
    if y4.1 = 0 then
      some (0, 0, (mO y4.2.2 [(227, 1)] [(66, upI (y4.2.2.2 66) 1 (-1)), (67, upI (y4.2.2.2 67) 1 (-1))]))
    else
      some (y4.1, 0, y4.2.2)
  else
    some (y1.1, 0, y1.2.2)
theorem D_rd_openControl (w : wX) (m : mR) (c : Nat → Option am_C) (N D : Nat) (hm : KCn m) : PC w D 136 [.ref 178] (khp m c, N) (QS (FX0 c N) (kf_rd_openControl m)) := by
  refine Pc_of (fun D bb => ?_) D
  unfold kf_rd_openControl
  show PP bb w D pm_136 (0, [(0, .ref 178)], [], (khp (mO m [] []) c, N), 0, 0) _
  refine P_ld 1 (.ref 178) rfl (fun _ => rfl) ?_
  refine PK_gf 4 (.ref 6) rfl rfl kd_178 rfl rfl rfl ?_
  refine P_ld 7 (.int (i32 319)) rfl (fun _ => rfl) ?_
  refine P_cx0 10 78 [.ref 6, .int (i32 319)] [] rfl (fun _ => rfl) rfl rfl (D_tx_expect w m c N D hm 319 (l32 319 rfl)) (fun y x hm e => ⟨_, rfl, hm, Or.inr ⟨x, e, rfl⟩⟩) (fun y1 n3 => ?_)
  refine P_ld 11 (.ref 178) rfl (fun _ => rfl) ?_
  refine PK_gf 14 (.ref 6) rfl rfl kd_178 rfl rfl rfl ?_
  refine P_ld 16 (.int (i32 123)) rfl (fun _ => rfl) ?_
  refine P_cx0 19 78 [.ref 6, .int (i32 123)] [] rfl (fun _ => rfl) rfl rfl (D_tx_expect w y1.2.2 c N D n3 123 (l32 123 rfl)) (fun y x hm e => ⟨_, rfl, hm, Or.inr ⟨x, e, rfl⟩⟩) (fun y4 n6 => ?_)
  refine P_ld 20 (.ref 178) rfl (fun _ => rfl) ?_
  refine PK_gf 23 (.ref 179) rfl rfl kd_178 rfl rfl rfl ?_
  refine P_ld 24 (.int (i32 1)) rfl (fun _ => rfl) ?_
  refine P_ld 25 (.int (i32 (-1))) rfl (fun _ => rfl) ?_
  refine PK_iast2 (a' := [(66, upI (y4.2.2.2 66) 1 (-1))]) 26 66 (y4.2.2.2 66) rfl rfl rfl (l32 1 rfl) rfl rfl ?_
  refine P_ld 27 (.ref 178) rfl (fun _ => rfl) ?_
  refine PK_gf 30 (.ref 180) rfl rfl kd_178 rfl rfl rfl ?_
  refine P_ld 31 (.int (i32 1)) rfl (fun _ => rfl) ?_
  refine P_ld 32 (.int (i32 (-1))) rfl (fun _ => rfl) ?_
  refine PK_iast2 (a' := [(66, upI (y4.2.2.2 66) 1 (-1)), (67, upI (y4.2.2.2 67) 1 (-1))]) 33 67 (y4.2.2.2 67) rfl rfl rfl (l32 1 rfl) rfl rfl ?_
  refine P_ld 34 (.ref 178) rfl (fun _ => rfl) ?_
  refine P_ld 35 (.int (i32 1)) rfl (fun _ => rfl) ?_
  refine PK_pf (l' := [(227, 1)]) 38 1 rfl rfl kd_178 rfl rfl rfl rfl rfl rfl rfl ?_
  exact P_rx0 rfl rfl (KCn_mO n6 rfl rfl ⟨(kV_i rfl (l32 1 rfl)), trivial⟩ ⟨(kE_ui (KCn_a n6 66) rfl (l32 (-1) rfl)), (kE_ui (KCn_a n6 67) rfl (l32 (-1) rfl)), trivial⟩)
def cs_tx_find_2 (s : Int) : Prop := R32 s
def cx_tx_find_2 : (Sum (Int) (Unit)) → Prop := (sel (fun (e : Int) => R32 e) (fun (e : Unit) => True))
def hd_tx_find_2 (c : Nat → Option am_C) (N : Nat) (m : mR) (s : Int) (j : Nat → Int) : ag_St af_T := (2, [(0, .ref 6), (1, .int (i32 s))], [], (khp m c, N), 0, 0)
def ex_tx_find_2 (c : Nat → Option am_C) (N : Nat) (m : mR) : (Sum (Int) (Unit)) → (Nat → Int) → ag_St af_T := (sel (fun (e : Int) (j : Nat → Int) => ((38, [(0, .ref 6), (1, .int (i32 e))], [], (khp m c, N), 0, 0) : ag_St af_T)) (fun (e : Unit) (j : Nat → Int) => ((46, [(0, .ref 6), (1, .int (i32 (j 1)))], [], (khp m c, N), 0, 0) : ag_St af_T)))
def kfl_tx_find_40 (v1 : Int) (m : mR) : Option (Sum (Int) (Sum (Int) (Unit))) :=
  some (.inl (cut (v1 + 1)))
theorem dg_tx_find_40 (w : wX) (c : Nat → Option am_C) (N D : Nat) (bb : Nat) (v1 : Int) (q1 : R32 v1) (m : mR) (hm : KCn m) (j : Nat → Int) (Q2 : Sum (Int) (Sum (Int) (Unit)) → ag_Re af_T → Prop) (H1 : ∀ s j, cs_tx_find_2 s → PP bb w D pm_77 (hd_tx_find_2 c N m s j) (Q2 (.inl s))) (H2 : ∀ x j, cx_tx_find_2 x → PP bb w D pm_77 (ex_tx_find_2 c N m x j) (Q2 (.inr x))) : PP bb w D pm_77 (40, [(0, .ref 6), (1, .int (i32 v1))], [], (khp m c, N), 0, 0) (QS Q2 (kfl_tx_find_40 v1 m)) := by
  unfold kfl_tx_find_40
  show PP bb w D pm_77 (40, [(0, .ref 6), (1, .int (i32 v1))], [], (khp (mO m [] []) c, N), 0, 0) _
  refine P_inc 43 [(1, .int (i32 (cut (v1 + 1)))), (0, .ref 6)] rfl rfl (by decide) rfl rfl ?_
  refine P_goto 2 rfl (fun _ => rfl) ?_
  refine P_some ?_
  refine P_lv (b := [(0, .ref 6), (1, .int (i32 (cut (v1 + 1))))]) rfl rfl ⟨rfl, rfl, trivial⟩ ?_
  exact H1 (cut (v1 + 1)) (jk []) cut_r
def kfb_tx_find_2 (m : mR) (s : Int) : Option (Sum (Int) (Sum (Int) (Unit))) :=
  if m.1 203 ≤ s then
    some (.inr (.inr ()))
  else
    if cmp64 ((m.2 6) s) (m.1 209) = 0 then
      if cmp64 ((m.2 7) s) (m.1 210) = 0 then
        some (.inr (.inl s))
      else
        kfl_tx_find_40 s m
    else
      kfl_tx_find_40 s m
theorem dh_tx_find_2 (w : wX) (c : Nat → Option am_C) (N D : Nat) (m : mR) (hm : KCn m) (bb : Nat) (Q2 : Sum (Int) (Sum (Int) (Unit)) → ag_Re af_T → Prop) (H1 : ∀ s j, cs_tx_find_2 s → PP bb w D pm_77 (hd_tx_find_2 c N m s j) (Q2 (.inl s))) (H2 : ∀ x j, cx_tx_find_2 x → PP bb w D pm_77 (ex_tx_find_2 c N m x j) (Q2 (.inr x))) (s : Int) (j : Nat → Int) (hs : cs_tx_find_2 s) : PP (bb + 1) w D pm_77 (hd_tx_find_2 c N m s j) (QS Q2 (kfb_tx_find_2 m s)) := by
  have g1 := hs
  unfold kfb_tx_find_2
  show PP (bb + 1) w D pm_77 (2, [(0, .ref 6), (1, .int (i32 s))], [], (khp (mO m [] []) c, N), 0, 0) _
  refine P1_ld 3 (.int (i32 s)) rfl (fun _ => rfl) ?_
  refine P_ld 4 (.ref 6) rfl (fun _ => rfl) ?_
  refine PK_gf 7 (.int (i32 (m.1 203))) rfl rfl kd_6 rfl rfl rfl ?_
  refine P_icF 46 10 rfl rfl rfl g1 (KCn_i hm 203 rfl) rfl (fun h3 => ?_) (fun h3 => ?_)
  · skip
    refine P_some ?_
    exact H2 (.inr ()) (jk [(1, s)]) trivial
  · skip
    refine P_ld 11 (.ref 6) rfl (fun _ => rfl) ?_
    refine PK_gf 14 (.ref 8) rfl rfl kd_6 rfl rfl rfl ?_
    refine P_ld 15 (.int (i32 s)) rfl (fun _ => rfl) ?_
    refine PK_lald2 16 6 (m.2 6) rfl rfl rfl g1 rfl ?_
    refine P_ld 17 (.ref 6) rfl (fun _ => rfl) ?_
    refine PK_gf 20 (.long (i64 (m.1 209))) rfl rfl kd_6 rfl rfl rfl ?_
    refine P_op 21 (cmp64 ((m.2 6) s) (m.1 209)) _ rfl (fun _ => rfl) (o_cmp (kE_l (KCn_a hm 6) rfl _) (KCn_l hm 209 rfl)) ?_
    refine P_ifE 40 24 rfl rfl rfl cmp64_r rfl (fun h4 => ?_) (fun h4 => ?_)
    · skip
      refine P_ld 25 (.ref 6) rfl (fun _ => rfl) ?_
      refine PK_gf 28 (.ref 9) rfl rfl kd_6 rfl rfl rfl ?_
      refine P_ld 29 (.int (i32 s)) rfl (fun _ => rfl) ?_
      refine PK_lald2 30 7 (m.2 7) rfl rfl rfl g1 rfl ?_
      refine P_ld 31 (.ref 6) rfl (fun _ => rfl) ?_
      refine PK_gf 34 (.long (i64 (m.1 210))) rfl rfl kd_6 rfl rfl rfl ?_
      refine P_op 35 (cmp64 ((m.2 7) s) (m.1 210)) _ rfl (fun _ => rfl) (o_cmp (kE_l (KCn_a hm 7) rfl _) (KCn_l hm 210 rfl)) ?_
      refine P_ifE 40 38 rfl rfl rfl cmp64_r rfl (fun h5 => ?_) (fun h5 => ?_)
      · skip
        refine P_some ?_
        exact H2 (.inl s) (jk []) g1
      · skip
        exact dg_tx_find_40 w c N D bb s g1 m hm (jk []) Q2 H1 H2
    · skip
      exact dg_tx_find_40 w c N D bb s g1 m hm (jk []) Q2 H1 H2
def kf_tx_find (m : mR) : Option Int :=
  bnd (whl (kfb_tx_find_2 m) 0) (sel
    (fun e6 : Int =>
      some e6)
    (fun e9 : Unit =>
      some (-1)))
theorem D_tx_find (w : wX) (m : mR) (c : Nat → Option am_C) (N D : Nat) (hm : KCn m) : PC w D 77 [.ref 6] (khp m c, N) (QS (FP1 (khp m c, N)) (kf_tx_find m)) := by
  refine Pc_of (fun D bb => ?_) D
  unfold kf_tx_find
  show PP bb w D pm_77 (0, [(0, .ref 6)], [], (khp (mO m [] []) c, N), 0, 0) _
  refine P_ld 1 (.int (i32 0)) rfl (fun _ => rfl) ?_
  refine P_sto 2 [(1, .int (i32 0)), (0, .ref 6)] rfl (fun _ => rfl) ?_
  refine P_lv (b := [(0, .ref 6), (1, .int (i32 0))]) rfl rfl ⟨rfl, rfl, trivial⟩ ?_
  refine P_bnd ?_
  refine P_whl (fun bb Q2 H1 H2 s9 j9 hs9 => dh_tx_find_2 w c N D m hm bb Q2 H1 H2 s9 j9 hs9) bb (fun x0 j hx0 => ?_) 0 (jk []) (l32 0 rfl)
  cases x0 with
  | inl e6 =>
    have q7 := hx0
    have q8 := q7
    show PP bb w D pm_77 (38, [(0, .ref 6), (1, .int (i32 e6))], [], (khp (mO m [] []) c, N), 0, 0) (QS _ (some e6))
    refine P_ld 39 (.int (i32 e6)) rfl (fun _ => rfl) ?_
    exact P_rp1 rfl q8
  | inr e9 =>
    have q10 := hx0
    show PP bb w D pm_77 (46, [(0, .ref 6), (1, .int (i32 (j 1)))], [], (khp (mO m [] []) c, N), 0, 0) (QS _ (some (-1)))
    refine P_ld 47 (.int (i32 (-1))) rfl (fun _ => rfl) ?_
    exact P_rp1 rfl (l32 (-1) rfl)
def kfl_tx_indexOf_30 (u0 : Int) (m : mR) : Option Int :=
  some u0
theorem dg_tx_indexOf_30 (w : wX) (c : Nat → Option am_C) (N D : Nat) (bb : Nat) (u0 : Int) (r0 : R32 u0) (m : mR) (hm : KCn m) (j : Nat → Int) : PP bb w D pm_84 (30, [(0, .ref 6), (1, .int (i32 (j 1))), (2, .int (i32 (j 2)))], [.int (i32 u0)], (khp m c, N), 0, 0) (QS (FP1 (khp m c, N)) (kfl_tx_indexOf_30 u0 m)) := by
  unfold kfl_tx_indexOf_30
  show PP bb w D pm_84 (30, [(0, .ref 6), (1, .int (i32 (j 1))), (2, .int (i32 (j 2)))], [.int (i32 u0)], (khp (mO m [] []) c, N), 0, 0) _
  exact P_rp1 rfl r0
def kf_tx_indexOf (v1 : Int) (m : mR) : Option Int :=
  bnd (kf_tx_find m) fun y1 =>
  if y1 = (-1) then
    kfl_tx_indexOf_30 (-1) m
  else
    if (m.2 8) y1 = v1 then
      kfl_tx_indexOf_30 ((m.2 9) y1) m
    else
      kfl_tx_indexOf_30 (-1) m
theorem D_tx_indexOf (w : wX) (m : mR) (c : Nat → Option am_C) (N D : Nat) (hm : KCn m) (v1 : Int) (q1 : R32 v1) : PC w D 84 [.ref 6, .int (i32 v1)] (khp m c, N) (QS (FP1 (khp m c, N)) (kf_tx_indexOf v1 m)) := by
  refine Pc_of (fun D bb => ?_) D
  unfold kf_tx_indexOf
  show PP bb w D pm_84 (0, [(0, .ref 6), (1, .int (i32 v1))], [], (khp (mO m [] []) c, N), 0, 0) _
  refine P_ld 1 (.ref 6) rfl (fun _ => rfl) ?_
  refine P_cp1 4 77 [.ref 6] [] rfl (fun _ => rfl) rfl (D_tx_find w m c N D hm) (fun y1 h2 => ?_)
  refine P_sto 5 [(2, .int (i32 y1)), (0, .ref 6), (1, .int (i32 v1))] rfl (fun _ => rfl) ?_
  refine P_ld 6 (.int (i32 y1)) rfl (fun _ => rfl) ?_
  refine P_ld 7 (.int (i32 (-1))) rfl (fun _ => rfl) ?_
  refine P_icF 29 10 rfl rfl rfl h2 (l32 (-1) rfl) rfl (fun h4 => ?_) (fun h4 => ?_)
  · skip
    refine P_ld 30 (.int (i32 (-1))) rfl (fun _ => rfl) ?_
    refine P_lv (b := [(0, .ref 6), (1, .int (i32 v1)), (2, .int (i32 y1))]) rfl rfl ⟨rfl, rfl, rfl, trivial⟩ ?_
    exact dg_tx_indexOf_30 w c N D bb (-1) (l32 (-1) rfl) m hm (jk [(1, v1), (2, y1)])
  · skip
    refine P_ld 11 (.ref 6) rfl (fun _ => rfl) ?_
    refine PK_gf 14 (.ref 10) rfl rfl kd_6 rfl rfl rfl ?_
    refine P_ld 15 (.int (i32 y1)) rfl (fun _ => rfl) ?_
    refine PK_iald2 16 8 (m.2 8) rfl rfl rfl h2 rfl ?_
    refine P_ld 17 (.int (i32 v1)) rfl (fun _ => rfl) ?_
    refine P_icE 29 20 rfl rfl rfl (kE_i (KCn_a hm 8) rfl _) q1 rfl (fun h5 => ?_) (fun h5 => ?_)
    · skip
      refine P_ld 21 (.ref 6) rfl (fun _ => rfl) ?_
      refine PK_gf 24 (.ref 11) rfl rfl kd_6 rfl rfl rfl ?_
      refine P_ld 25 (.int (i32 y1)) rfl (fun _ => rfl) ?_
      refine PK_iald2 26 9 (m.2 9) rfl rfl rfl h2 rfl ?_
      refine P_goto 30 rfl (fun _ => rfl) ?_
      refine P_lv (b := [(0, .ref 6), (1, .int (i32 v1)), (2, .int (i32 y1))]) rfl rfl ⟨rfl, rfl, rfl, trivial⟩ ?_
      exact dg_tx_indexOf_30 w c N D bb ((m.2 9) y1) (kE_i (KCn_a hm 9) rfl _) m hm (jk [(1, v1), (2, y1)])
    · skip
      refine P_ld 30 (.int (i32 (-1))) rfl (fun _ => rfl) ?_
      refine P_lv (b := [(0, .ref 6), (1, .int (i32 v1)), (2, .int (i32 y1))]) rfl rfl ⟨rfl, rfl, rfl, trivial⟩ ?_
      exact dg_tx_indexOf_30 w c N D bb (-1) (l32 (-1) rfl) m hm (jk [(1, v1), (2, y1)])
end X28D
