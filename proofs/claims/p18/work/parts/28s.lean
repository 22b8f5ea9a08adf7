noncomputable section X28S
def cs_sp_settle_30 (s : Int × Int × mR) : Prop := R32 s.1 ∧ R32 s.2.1 ∧ KCn s.2.2
def cx_sp_settle_30 : (Sum (Int × mR) (Int × mR)) → Prop := (sel (fun (e : Int × mR) => R32 e.1 ∧ KCn e.2) (fun (e : Int × mR) => R32 e.1 ∧ KCn e.2))
def hd_sp_settle_30 (c : Nat → Option am_C) (N : Nat) (v2 : Int) (v3 : Int) (v4 : Int) (s : Int × Int × mR) (j : Nat → Int) : ag_St af_T := (30, [(0, .ref 59), (1, .ref 12), (2, .int (i32 v2)), (3, .int (i32 v3)), (4, .int (i32 v4)), (5, .int (i32 s.1)), (6, .int (i32 s.2.1)), (7, tbv (j 7)), (8, .int (i32 (j 8))), (9, .int (i32 (j 9))), (10, .int (i32 (j 10)))], [], (khp s.2.2 c, N), 0, 0)
def ex_sp_settle_30 (c : Nat → Option am_C) (N : Nat) (v2 : Int) (v3 : Int) (v4 : Int) : (Sum (Int × mR) (Int × mR)) → (Nat → Int) → ag_St af_T := (sel (fun (e : Int × mR) (j : Nat → Int) => ((135, [(0, .ref 59), (1, .ref 12), (2, .int (i32 (j 2))), (3, .int (i32 (j 3))), (4, .int (i32 (j 4))), (5, .int (i32 (j 5))), (6, .int (i32 e.1)), (7, tbv (j 7)), (8, .int (i32 (j 8))), (9, .int (i32 (j 9))), (10, .int (i32 (j 10)))], [], (khp e.2 c, N), 0, 0) : ag_St af_T)) (fun (e : Int × mR) (j : Nat → Int) => ((199, [(0, .ref 59), (1, .ref 12), (2, .int (i32 (j 2))), (3, .int (i32 (j 3))), (4, .int (i32 (j 4))), (5, .int (i32 e.1)), (6, .int (i32 (j 6))), (7, tbv (j 7)), (8, .int (i32 (j 8))), (9, .int (i32 (j 9))), (10, .int (i32 (j 10)))], [], (khp e.2 c, N), 0, 0) : ag_St af_T)))
def kfl_sp_settle_199 (v5 : Int) (m : mR) : Option (Int × mR) :=
  some ((-1), (mO m [(226, v5)] []))
theorem dg_sp_settle_199 (w : wX) (c : Nat → Option am_C) (N D : Nat) (bb : Nat) (v5 : Int) (q5 : R32 v5) (m : mR) (hm : KCn m) (j : Nat → Int) : PP bb w D pm_150 (199, [(0, .ref 59), (1, .ref 12), (2, .int (i32 (j 2))), (3, .int (i32 (j 3))), (4, .int (i32 (j 4))), (5, .int (i32 v5)), (6, .int (i32 (j 6))), (7, tbv (j 7)), (8, .int (i32 (j 8))), (9, .int (i32 (j 9))), (10, .int (i32 (j 10)))], [], (khp m c, N), 0, 0) (QS (FK1 c N) (kfl_sp_settle_199 v5 m)) := by
  unfold kfl_sp_settle_199
  show PP bb w D pm_150 (199, [(0, .ref 59), (1, .ref 12), (2, .int (i32 (j 2))), (3, .int (i32 (j 3))), (4, .int (i32 (j 4))), (5, .int (i32 v5)), (6, .int (i32 (j 6))), (7, tbv (j 7)), (8, .int (i32 (j 8))), (9, .int (i32 (j 9))), (10, .int (i32 (j 10)))], [], (khp (mO m [] []) c, N), 0, 0) _
  refine P_ld 200 (.ref 59) rfl (fun _ => rfl) ?_
  refine P_ld 202 (.int (i32 v5)) rfl (fun _ => rfl) ?_
  refine PK_pf (l' := [(226, v5)]) 205 v5 rfl rfl kd_59 rfl rfl rfl rfl rfl rfl rfl ?_
  refine P_ld 206 (.int (i32 (-1))) rfl (fun _ => rfl) ?_
  exact P_rk1 rfl (l32 (-1) rfl) (KCn_mO hm rfl rfl ⟨(kV_i rfl q5), trivial⟩ trivial)
def kfl_sp_settle_109 (v2 : Int) (v3 : Int) (v4 : Int) (v5 : Int) (v6 : Int) (v8 : Int) (u0 : Int) (m : mR) : Option (Sum (Int × Int × mR) (Sum (Int × mR) (Int × mR))) :=
  bnd (kf_sp_earliest v6 v2 (cut (v3 - v8)) (cut (v4 - u0)) m) fun y5 =>
  if y5 = (-1) then
    some (.inr (.inl (v6, m)))
  else
    bnd (kf_Math_max v5 (cut (y5 + 1)) (mO m [] [(59, upI (m.2 59) v6 y5), (63, upI (m.2 63) y5 (cut (((m.2 63) y5) + 1))), (64, upI (m.2 64) y5 (cut (((m.2 64) y5) + v8))), (65, upI (m.2 65) y5 (cut (((m.2 65) y5) + u0)))])) fun y9 =>
    some (.inl (y9, cut (v6 + 1), (mO m [] [(59, upI (m.2 59) v6 y5), (63, upI (m.2 63) y5 (cut (((m.2 63) y5) + 1))), (64, upI (m.2 64) y5 (cut (((m.2 64) y5) + v8))), (65, upI (m.2 65) y5 (cut (((m.2 65) y5) + u0)))])))
theorem dg_sp_settle_109 (w : wX) (c : Nat → Option am_C) (N D : Nat) (bb : Nat) (v2 : Int) (v3 : Int) (v4 : Int) (v5 : Int) (v6 : Int) (v8 : Int) (u0 : Int) (q2 : R32 v2) (q3 : R32 v3) (q4 : R32 v4) (q5 : R32 v5) (q6 : R32 v6) (q8 : R32 v8) (r0 : R32 u0) (m : mR) (hm : KCn m) (j : Nat → Int) (Q2 : Sum (Int × Int × mR) (Sum (Int × mR) (Int × mR)) → ag_Re af_T → Prop) (H1 : ∀ s j, cs_sp_settle_30 s → PP bb w D pm_150 (hd_sp_settle_30 c N v2 v3 v4 s j) (Q2 (.inl s))) (H2 : ∀ x j, cx_sp_settle_30 x → PP bb w D pm_150 (ex_sp_settle_30 c N v2 v3 v4 x j) (Q2 (.inr x))) : PP bb w D pm_150 (109, [(0, .ref 59), (1, .ref 12), (2, .int (i32 v2)), (3, .int (i32 v3)), (4, .int (i32 v4)), (5, .int (i32 v5)), (6, .int (i32 v6)), (7, tbv (j 7)), (8, .int (i32 v8)), (9, .int (i32 (j 9))), (10, .int (i32 (j 10)))], [.int (i32 u0)], (khp m c, N), 0, 0) (QS Q2 (kfl_sp_settle_109 v2 v3 v4 v5 v6 v8 u0 m)) := by
  unfold kfl_sp_settle_109
  show PP bb w D pm_150 (109, [(0, .ref 59), (1, .ref 12), (2, .int (i32 v2)), (3, .int (i32 v3)), (4, .int (i32 v4)), (5, .int (i32 v5)), (6, .int (i32 v6)), (7, tbv (j 7)), (8, .int (i32 v8)), (9, .int (i32 (j 9))), (10, .int (i32 (j 10)))], [.int (i32 u0)], (khp (mO m [] []) c, N), 0, 0) _
  refine P_sto 111 [(9, .int (i32 u0)), (0, .ref 59), (1, .ref 12), (2, .int (i32 v2)), (3, .int (i32 v3)), (4, .int (i32 v4)), (5, .int (i32 v5)), (6, .int (i32 v6)), (7, tbv (j 7)), (8, .int (i32 v8)), (10, .int (i32 (j 10)))] rfl (fun _ => rfl) ?_
  refine P_ld 112 (.ref 59) rfl (fun _ => rfl) ?_
  refine P_ld 114 (.int (i32 v6)) rfl (fun _ => rfl) ?_
  refine P_ld 115 (.int (i32 v2)) rfl (fun _ => rfl) ?_
  refine P_ld 116 (.int (i32 v3)) rfl (fun _ => rfl) ?_
  refine P_ld 118 (.int (i32 v8)) rfl (fun _ => rfl) ?_
  refine P_op 119 (cut (v3 - v8)) _ rfl (fun _ => rfl) o_sub ?_
  refine P_ld 121 (.int (i32 v4)) rfl (fun _ => rfl) ?_
  refine P_ld 123 (.int (i32 u0)) rfl (fun _ => rfl) ?_
  refine P_op 124 (cut (v4 - u0)) _ rfl (fun _ => rfl) o_sub ?_
  refine P_cp1 127 159 [.ref 59, .int (i32 v6), .int (i32 v2), .int (i32 (cut (v3 - v8))), .int (i32 (cut (v4 - u0)))] [] rfl (fun _ => rfl) rfl (D_sp_earliest w m c N D hm v6 v2 (cut (v3 - v8)) (cut (v4 - u0)) q6 q2 cut_r cut_r) (fun y5 h6 => ?_)
  refine P_sto 129 [(10, .int (i32 y5)), (9, .int (i32 u0)), (0, .ref 59), (1, .ref 12), (2, .int (i32 v2)), (3, .int (i32 v3)), (4, .int (i32 v4)), (5, .int (i32 v5)), (6, .int (i32 v6)), (7, tbv (j 7)), (8, .int (i32 v8))] rfl (fun _ => rfl) ?_
  refine P_ld 131 (.int (i32 y5)) rfl (fun _ => rfl) ?_
  refine P_ld 132 (.int (i32 (-1))) rfl (fun _ => rfl) ?_
  refine P_icE 138 135 rfl rfl rfl h6 (l32 (-1) rfl) rfl (fun h8 => ?_) (fun h8 => ?_)
  · skip
    refine P_some ?_
    refine P_lv (b := [(0, .ref 59), (1, .ref 12), (2, .int (i32 v2)), (3, .int (i32 v3)), (4, .int (i32 v4)), (5, .int (i32 v5)), (6, .int (i32 v6)), (7, tbv (j 7)), (8, .int (i32 v8)), (9, .int (i32 u0)), (10, .int (i32 y5))]) rfl rfl ⟨rfl, rfl, rfl, rfl, rfl, rfl, rfl, rfl, rfl, rfl, rfl, trivial⟩ ?_
    exact H2 (.inl (v6, m)) (jk [(2, v2), (3, v3), (4, v4), (5, v5), (7, j 7), (8, v8), (9, u0), (10, y5)]) ⟨q6, hm⟩
  · skip
    refine P_ld 139 (.ref 59) rfl (fun _ => rfl) ?_
    refine PK_gf 142 (.ref 67) rfl rfl kd_59 rfl rfl rfl ?_
    refine P_ld 144 (.int (i32 v6)) rfl (fun _ => rfl) ?_
    refine P_ld 146 (.int (i32 y5)) rfl (fun _ => rfl) ?_
    refine PK_iast2 (a' := [(59, upI (m.2 59) v6 y5)]) 147 59 (m.2 59) rfl rfl rfl q6 rfl rfl ?_
    refine P_ld 148 (.ref 59) rfl (fun _ => rfl) ?_
    refine PK_gf 151 (.ref 71) rfl rfl kd_59 rfl rfl rfl ?_
    refine P_ld 153 (.int (i32 y5)) rfl (fun _ => rfl) ?_
    refine P_dup2 154 rfl (fun _ => rfl) ?_
    refine PK_iald2 155 63 (m.2 63) rfl rfl rfl h6 rfl ?_
    refine P_ld 156 (.int (i32 1)) rfl (fun _ => rfl) ?_
    refine P_op 157 (cut (((m.2 63) y5) + 1)) _ rfl (fun _ => rfl) o_add ?_
    refine PK_iast2 (a' := [(59, upI (m.2 59) v6 y5), (63, upI (m.2 63) y5 (cut (((m.2 63) y5) + 1)))]) 158 63 (m.2 63) rfl rfl rfl h6 rfl rfl ?_
    refine P_ld 159 (.ref 59) rfl (fun _ => rfl) ?_
    refine PK_gf 162 (.ref 72) rfl rfl kd_59 rfl rfl rfl ?_
    refine P_ld 164 (.int (i32 y5)) rfl (fun _ => rfl) ?_
    refine P_dup2 165 rfl (fun _ => rfl) ?_
    refine PK_iald2 166 64 (m.2 64) rfl rfl rfl h6 rfl ?_
    refine P_ld 168 (.int (i32 v8)) rfl (fun _ => rfl) ?_
    refine P_op 169 (cut (((m.2 64) y5) + v8)) _ rfl (fun _ => rfl) o_add ?_
    refine PK_iast2 (a' := [(59, upI (m.2 59) v6 y5), (63, upI (m.2 63) y5 (cut (((m.2 63) y5) + 1))), (64, upI (m.2 64) y5 (cut (((m.2 64) y5) + v8)))]) 170 64 (m.2 64) rfl rfl rfl h6 rfl rfl ?_
    refine P_ld 171 (.ref 59) rfl (fun _ => rfl) ?_
    refine PK_gf 174 (.ref 73) rfl rfl kd_59 rfl rfl rfl ?_
    refine P_ld 176 (.int (i32 y5)) rfl (fun _ => rfl) ?_
    refine P_dup2 177 rfl (fun _ => rfl) ?_
    refine PK_iald2 178 65 (m.2 65) rfl rfl rfl h6 rfl ?_
    refine P_ld 180 (.int (i32 u0)) rfl (fun _ => rfl) ?_
    refine P_op 181 (cut (((m.2 65) y5) + u0)) _ rfl (fun _ => rfl) o_add ?_
    refine PK_iast2 (a' := [(59, upI (m.2 59) v6 y5), (63, upI (m.2 63) y5 (cut (((m.2 63) y5) + 1))), (64, upI (m.2 64) y5 (cut (((m.2 64) y5) + v8))), (65, upI (m.2 65) y5 (cut (((m.2 65) y5) + u0)))]) 182 65 (m.2 65) rfl rfl rfl h6 rfl rfl ?_
    refine P_ld 184 (.int (i32 v5)) rfl (fun _ => rfl) ?_
    refine P_ld 186 (.int (i32 y5)) rfl (fun _ => rfl) ?_
    refine P_ld 187 (.int (i32 1)) rfl (fun _ => rfl) ?_
    refine P_op 188 (cut (y5 + 1)) _ rfl (fun _ => rfl) o_add ?_
    refine P_cp1 191 61 [.int (i32 v5), .int (i32 (cut (y5 + 1)))] [] rfl (fun _ => rfl) rfl (D_Math_max w (mO m [] [(59, upI (m.2 59) v6 y5), (63, upI (m.2 63) y5 (cut (((m.2 63) y5) + 1))), (64, upI (m.2 64) y5 (cut (((m.2 64) y5) + v8))), (65, upI (m.2 65) y5 (cut (((m.2 65) y5) + u0)))]) c N D (KCn_mO hm rfl rfl trivial ⟨(kE_ui (KCn_a hm 59) rfl h6), (kE_ui (KCn_a hm 63) rfl cut_r), (kE_ui (KCn_a hm 64) rfl cut_r), (kE_ui (KCn_a hm 65) rfl cut_r), trivial⟩) v5 (cut (y5 + 1)) q5 cut_r) (fun y9 h10 => ?_)
    refine P_sto 193 [(5, .int (i32 y9)), (10, .int (i32 y5)), (9, .int (i32 u0)), (0, .ref 59), (1, .ref 12), (2, .int (i32 v2)), (3, .int (i32 v3)), (4, .int (i32 v4)), (6, .int (i32 v6)), (7, tbv (j 7)), (8, .int (i32 v8))] rfl (fun _ => rfl) ?_
    refine P_inc 196 [(6, .int (i32 (cut (v6 + 1)))), (5, .int (i32 y9)), (10, .int (i32 y5)), (9, .int (i32 u0)), (0, .ref 59), (1, .ref 12), (2, .int (i32 v2)), (3, .int (i32 v3)), (4, .int (i32 v4)), (7, tbv (j 7)), (8, .int (i32 v8))] rfl rfl (by decide) rfl rfl ?_
    refine P_goto 30 rfl (fun _ => rfl) ?_
    refine P_some ?_
    refine P_lv (b := [(0, .ref 59), (1, .ref 12), (2, .int (i32 v2)), (3, .int (i32 v3)), (4, .int (i32 v4)), (5, .int (i32 y9)), (6, .int (i32 (cut (v6 + 1)))), (7, tbv (j 7)), (8, .int (i32 v8)), (9, .int (i32 u0)), (10, .int (i32 y5))]) rfl rfl ⟨rfl, rfl, rfl, rfl, rfl, rfl, rfl, rfl, rfl, rfl, rfl, trivial⟩ ?_
    exact H1 (y9, cut (v6 + 1), (mO m [] [(59, upI (m.2 59) v6 y5), (63, upI (m.2 63) y5 (cut (((m.2 63) y5) + 1))), (64, upI (m.2 64) y5 (cut (((m.2 64) y5) + v8))), (65, upI (m.2 65) y5 (cut (((m.2 65) y5) + u0)))])) (jk [(7, j 7), (8, v8), (9, u0), (10, y5)]) ⟨h10, cut_r, (KCn_mO hm rfl rfl trivial ⟨(kE_ui (KCn_a hm 59) rfl h6), (kE_ui (KCn_a hm 63) rfl cut_r), (kE_ui (KCn_a hm 64) rfl cut_r), (kE_ui (KCn_a hm 65) rfl cut_r), trivial⟩)⟩
def kfl_sp_settle_93 (v2 : Int) (v3 : Int) (v4 : Int) (v5 : Int) (v6 : Int) (v7 : Int) (u0 : Int) (m : mR) : Option (Sum (Int × Int × mR) (Sum (Int × mR) (Int × mR))) :=
  if v7 < 0 then
    kfl_sp_settle_109 v2 v3 v4 v5 v6 u0 0 m
  else
    bnd (kf_tb_wires v7 m) fun y13 =>
    kfl_sp_settle_109 v2 v3 v4 v5 v6 u0 y13 m
theorem dg_sp_settle_93 (w : wX) (c : Nat → Option am_C) (N D : Nat) (bb : Nat) (v2 : Int) (v3 : Int) (v4 : Int) (v5 : Int) (v6 : Int) (v7 : Int) (u0 : Int) (q2 : R32 v2) (q3 : R32 v3) (q4 : R32 v4) (q5 : R32 v5) (q6 : R32 v6) (q7 : Rn v7) (r0 : R32 u0) (m : mR) (hm : KCn m) (j : Nat → Int) (Q2 : Sum (Int × Int × mR) (Sum (Int × mR) (Int × mR)) → ag_Re af_T → Prop) (H1 : ∀ s j, cs_sp_settle_30 s → PP bb w D pm_150 (hd_sp_settle_30 c N v2 v3 v4 s j) (Q2 (.inl s))) (H2 : ∀ x j, cx_sp_settle_30 x → PP bb w D pm_150 (ex_sp_settle_30 c N v2 v3 v4 x j) (Q2 (.inr x))) : PP bb w D pm_150 (93, [(0, .ref 59), (1, .ref 12), (2, .int (i32 v2)), (3, .int (i32 v3)), (4, .int (i32 v4)), (5, .int (i32 v5)), (6, .int (i32 v6)), (7, tbv v7), (8, .int (i32 (j 8))), (9, .int (i32 (j 9))), (10, .int (i32 (j 10)))], [.int (i32 u0)], (khp m c, N), 0, 0) (QS Q2 (kfl_sp_settle_93 v2 v3 v4 v5 v6 v7 u0 m)) := by
  unfold kfl_sp_settle_93
  show PP bb w D pm_150 (93, [(0, .ref 59), (1, .ref 12), (2, .int (i32 v2)), (3, .int (i32 v3)), (4, .int (i32 v4)), (5, .int (i32 v5)), (6, .int (i32 v6)), (7, tbv v7), (8, .int (i32 (j 8))), (9, .int (i32 (j 9))), (10, .int (i32 (j 10)))], [.int (i32 u0)], (khp (mO m [] []) c, N), 0, 0) _
  refine P_cs (fun h12 => ?_) (fun h12 => ?_)
  · skip
    rw [tbv_n h12]
    refine P_sto 95 [(8, .int (i32 u0)), (0, .ref 59), (1, .ref 12), (2, .int (i32 v2)), (3, .int (i32 v3)), (4, .int (i32 v4)), (5, .int (i32 v5)), (6, .int (i32 v6)), (7, .null), (9, .int (i32 (j 9))), (10, .int (i32 (j 10)))] rfl (fun _ => rfl) ?_
    refine P_ld 97 (.null) rfl (fun _ => rfl) ?_
    refine P_pop 100 rfl (fun _ => rfl) ?_
    refine P_ld 101 (.int (i32 0)) rfl (fun _ => rfl) ?_
    refine P_goto 109 rfl (fun _ => rfl) ?_
    refine P_lv (b := [(0, .ref 59), (1, .ref 12), (2, .int (i32 v2)), (3, .int (i32 v3)), (4, .int (i32 v4)), (5, .int (i32 v5)), (6, .int (i32 v6)), (7, tbv (-1)), (8, .int (i32 u0)), (9, .int (i32 (j 9))), (10, .int (i32 (j 10)))]) rfl rfl ⟨rfl, rfl, rfl, rfl, rfl, rfl, rfl, rfl, rfl, rfl, rfl, trivial⟩ ?_
    exact dg_sp_settle_109 w c N D bb v2 v3 v4 v5 v6 u0 0 q2 q3 q4 q5 q6 r0 (l32 0 rfl) m hm (jk [(7, (-1)), (9, j 9), (10, j 10)]) Q2 H1 H2
  · skip
    rw [tbv_t (Rt_n q7 h12)]
    refine P_sto 95 [(8, .int (i32 u0)), (0, .ref 59), (1, .ref 12), (2, .int (i32 v2)), (3, .int (i32 v3)), (4, .int (i32 v4)), (5, .int (i32 v5)), (6, .int (i32 v6)), (7, .ref (tbr v7)), (9, .int (i32 (j 9))), (10, .int (i32 (j 10)))] rfl (fun _ => rfl) ?_
    refine P_ld 97 (.ref (tbr v7)) rfl (fun _ => rfl) ?_
    refine P_pop 104 rfl (fun _ => rfl) ?_
    refine P_ld 106 (.ref (tbr v7)) rfl (fun _ => rfl) ?_
    refine P_cp1 109 158 [.ref (tbr v7)] [] rfl (inv_vt (args := []) (khp_t0 _ (Rt_n q7 h12).1 (Rt_n q7 h12).2) rfl rfl rfl) rfl (D_tb_wires w m c N D hm v7 (Rt_n q7 h12)) (fun y13 h14 => ?_)
    refine P_lv (b := [(0, .ref 59), (1, .ref 12), (2, .int (i32 v2)), (3, .int (i32 v3)), (4, .int (i32 v4)), (5, .int (i32 v5)), (6, .int (i32 v6)), (7, tbv v7), (8, .int (i32 u0)), (9, .int (i32 (j 9))), (10, .int (i32 (j 10)))]) rfl rfl ⟨rfl, rfl, rfl, rfl, rfl, rfl, rfl, rfl, (congrArg some (tbv_t (Rt_n q7 h12))), rfl, rfl, trivial⟩ ?_
    exact dg_sp_settle_109 w c N D bb v2 v3 v4 v5 v6 u0 y13 q2 q3 q4 q5 q6 r0 h14 m hm (jk [(7, v7), (9, j 9), (10, j 10)]) Q2 H1 H2
def kfl_sp_settle_73 (v2 : Int) (v3 : Int) (v4 : Int) (v5 : Int) (v6 : Int) (u0 : Int) (m : mR) : Option (Sum (Int × Int × mR) (Sum (Int × mR) (Int × mR))) :=
  if u0 < 0 then
    kfl_sp_settle_93 v2 v3 v4 v5 v6 (-1) 0 m
  else
    bnd (kf_tb_memory u0 m) fun y17 =>
    kfl_sp_settle_93 v2 v3 v4 v5 v6 u0 y17 m
theorem dg_sp_settle_73 (w : wX) (c : Nat → Option am_C) (N D : Nat) (bb : Nat) (v2 : Int) (v3 : Int) (v4 : Int) (v5 : Int) (v6 : Int) (u0 : Int) (q2 : R32 v2) (q3 : R32 v3) (q4 : R32 v4) (q5 : R32 v5) (q6 : R32 v6) (r0 : Rn u0) (m : mR) (hm : KCn m) (j : Nat → Int) (Q2 : Sum (Int × Int × mR) (Sum (Int × mR) (Int × mR)) → ag_Re af_T → Prop) (H1 : ∀ s j, cs_sp_settle_30 s → PP bb w D pm_150 (hd_sp_settle_30 c N v2 v3 v4 s j) (Q2 (.inl s))) (H2 : ∀ x j, cx_sp_settle_30 x → PP bb w D pm_150 (ex_sp_settle_30 c N v2 v3 v4 x j) (Q2 (.inr x))) : PP bb w D pm_150 (73, [(0, .ref 59), (1, .ref 12), (2, .int (i32 v2)), (3, .int (i32 v3)), (4, .int (i32 v4)), (5, .int (i32 v5)), (6, .int (i32 v6)), (7, tbv (j 7)), (8, .int (i32 (j 8))), (9, .int (i32 (j 9))), (10, .int (i32 (j 10)))], [tbv u0], (khp m c, N), 0, 0) (QS Q2 (kfl_sp_settle_73 v2 v3 v4 v5 v6 u0 m)) := by
  unfold kfl_sp_settle_73
  show PP bb w D pm_150 (73, [(0, .ref 59), (1, .ref 12), (2, .int (i32 v2)), (3, .int (i32 v3)), (4, .int (i32 v4)), (5, .int (i32 v5)), (6, .int (i32 v6)), (7, tbv (j 7)), (8, .int (i32 (j 8))), (9, .int (i32 (j 9))), (10, .int (i32 (j 10)))], [tbv u0], (khp (mO m [] []) c, N), 0, 0) _
  refine P_cs (fun h16 => ?_) (fun h16 => ?_)
  · skip
    rw [tbv_n h16]
    refine P_sto 75 [(7, .null), (0, .ref 59), (1, .ref 12), (2, .int (i32 v2)), (3, .int (i32 v3)), (4, .int (i32 v4)), (5, .int (i32 v5)), (6, .int (i32 v6)), (8, .int (i32 (j 8))), (9, .int (i32 (j 9))), (10, .int (i32 (j 10)))] rfl (fun _ => rfl) ?_
    refine P_ld 77 (.null) rfl (fun _ => rfl) ?_
    refine P_pop 80 rfl (fun _ => rfl) ?_
    refine P_ld 81 (.int (i32 0)) rfl (fun _ => rfl) ?_
    refine P_goto 93 rfl (fun _ => rfl) ?_
    refine P_lv (b := [(0, .ref 59), (1, .ref 12), (2, .int (i32 v2)), (3, .int (i32 v3)), (4, .int (i32 v4)), (5, .int (i32 v5)), (6, .int (i32 v6)), (7, tbv (-1)), (8, .int (i32 (j 8))), (9, .int (i32 (j 9))), (10, .int (i32 (j 10)))]) rfl rfl ⟨rfl, rfl, rfl, rfl, rfl, rfl, rfl, rfl, rfl, rfl, rfl, trivial⟩ ?_
    exact dg_sp_settle_93 w c N D bb v2 v3 v4 v5 v6 (-1) 0 q2 q3 q4 q5 q6 rn_1 (l32 0 rfl) m hm (jk [(8, j 8), (9, j 9), (10, j 10)]) Q2 H1 H2
  · skip
    rw [tbv_t (Rt_n r0 h16)]
    refine P_sto 75 [(7, .ref (tbr u0)), (0, .ref 59), (1, .ref 12), (2, .int (i32 v2)), (3, .int (i32 v3)), (4, .int (i32 v4)), (5, .int (i32 v5)), (6, .int (i32 v6)), (8, .int (i32 (j 8))), (9, .int (i32 (j 9))), (10, .int (i32 (j 10)))] rfl (fun _ => rfl) ?_
    refine P_ld 77 (.ref (tbr u0)) rfl (fun _ => rfl) ?_
    refine P_pop 84 rfl (fun _ => rfl) ?_
    refine P_ld 86 (.ref (tbr u0)) rfl (fun _ => rfl) ?_
    refine P_ld 87 (.ref 12) rfl (fun _ => rfl) ?_
    refine PK_gf 90 (.ref 45) rfl rfl kd_12 rfl rfl rfl ?_
    refine P_cp1 93 156 [.ref (tbr u0), .ref 45] [] rfl (inv_vt (args := [.ref 45]) (khp_t0 _ (Rt_n r0 h16).1 (Rt_n r0 h16).2) rfl rfl rfl) rfl (D_tb_memory w m c N D hm u0 (Rt_n r0 h16)) (fun y17 h18 => ?_)
    refine P_lv (b := [(0, .ref 59), (1, .ref 12), (2, .int (i32 v2)), (3, .int (i32 v3)), (4, .int (i32 v4)), (5, .int (i32 v5)), (6, .int (i32 v6)), (7, tbv u0), (8, .int (i32 (j 8))), (9, .int (i32 (j 9))), (10, .int (i32 (j 10)))]) rfl rfl ⟨(congrArg some (tbv_t (Rt_n r0 h16))), rfl, rfl, rfl, rfl, rfl, rfl, rfl, rfl, rfl, rfl, trivial⟩ ?_
    exact dg_sp_settle_93 w c N D bb v2 v3 v4 v5 v6 u0 y17 q2 q3 q4 q5 q6 (Rn_t (Rt_n r0 h16)) h18 m hm (jk [(8, j 8), (9, j 9), (10, j 10)]) Q2 H1 H2
def kfb_sp_settle_30 (v2 : Int) (v3 : Int) (v4 : Int) (s : Int × Int × mR) : Option (Sum (Int × Int × mR) (Sum (Int × mR) (Int × mR))) :=
  if s.2.2.1 225 ≤ s.2.1 then
    some (.inr (.inr (s.1, s.2.2)))
  else
    bnd (kf_sp_gather s.2.1 s.2.2) fun y25 =>
    if (y25.2.2 55) s.2.1 = (-1) then
      kfl_sp_settle_73 v2 v3 v4 s.1 s.2.1 (-1) y25.2
    else
      kfl_sp_settle_73 v2 v3 v4 s.1 s.2.1 ((y25.2.2 55) s.2.1) y25.2
theorem dh_sp_settle_30 (w : wX) (c : Nat → Option am_C) (N D : Nat) (v2 : Int) (v3 : Int) (v4 : Int) (q2 : R32 v2) (q3 : R32 v3) (q4 : R32 v4) (bb : Nat) (Q2 : Sum (Int × Int × mR) (Sum (Int × mR) (Int × mR)) → ag_Re af_T → Prop) (H1 : ∀ s j, cs_sp_settle_30 s → PP bb w D pm_150 (hd_sp_settle_30 c N v2 v3 v4 s j) (Q2 (.inl s))) (H2 : ∀ x j, cx_sp_settle_30 x → PP bb w D pm_150 (ex_sp_settle_30 c N v2 v3 v4 x j) (Q2 (.inr x))) (s : Int × Int × mR) (j : Nat → Int) (hs : cs_sp_settle_30 s) : PP (bb + 1) w D pm_150 (hd_sp_settle_30 c N v2 v3 v4 s j) (QS Q2 (kfb_sp_settle_30 v2 v3 v4 s)) := by
  obtain ⟨g5, g6, gm⟩ := hs
  unfold kfb_sp_settle_30
  show PP (bb + 1) w D pm_150 (30, [(0, .ref 59), (1, .ref 12), (2, .int (i32 v2)), (3, .int (i32 v3)), (4, .int (i32 v4)), (5, .int (i32 s.1)), (6, .int (i32 s.2.1)), (7, tbv (j 7)), (8, .int (i32 (j 8))), (9, .int (i32 (j 9))), (10, .int (i32 (j 10)))], [], (khp (mO s.2.2 [] []) c, N), 0, 0) _
  refine P1_ld 32 (.int (i32 s.2.1)) rfl (fun _ => rfl) ?_
  refine P_ld 33 (.ref 59) rfl (fun _ => rfl) ?_
  refine PK_gf 36 (.int (i32 (s.2.2.1 225))) rfl rfl kd_59 rfl rfl rfl ?_
  refine P_icF 199 39 rfl rfl rfl g6 (KCn_i gm 225 rfl) rfl (fun h24 => ?_) (fun h24 => ?_)
  · skip
    refine P_some ?_
    exact H2 (.inr (s.1, s.2.2)) (jk [(2, v2), (3, v3), (4, v4), (6, s.2.1), (7, j 7), (8, j 8), (9, j 9), (10, j 10)]) ⟨g5, gm⟩
  · skip
    refine P_ld 40 (.ref 59) rfl (fun _ => rfl) ?_
    refine P_ld 41 (.ref 12) rfl (fun _ => rfl) ?_
    refine P_ld 43 (.int (i32 s.2.1)) rfl (fun _ => rfl) ?_
    refine P_ck0 46 151 [.ref 59, .ref 12, .int (i32 s.2.1)] [] rfl (fun _ => rfl) rfl (D_sp_gather w s.2.2 c N D gm s.2.1 g6) (fun y25 n27 => ?_)
    refine P_ld 47 (.ref 59) rfl (fun _ => rfl) ?_
    refine PK_gf 50 (.ref 63) rfl rfl kd_59 rfl rfl rfl ?_
    refine P_ld 52 (.int (i32 s.2.1)) rfl (fun _ => rfl) ?_
    refine PK_iald2 53 55 (y25.2.2 55) rfl rfl rfl g6 rfl ?_
    refine P_ld 54 (.int (i32 (-1))) rfl (fun _ => rfl) ?_
    refine P_icE 61 57 rfl rfl rfl (kE_i (KCn_a n27 55) rfl _) (l32 (-1) rfl) rfl (fun h28 => ?_) (fun h28 => ?_)
    · skip
      refine P_ld 58 .null rfl (fun _ => rfl) ?_
      refine P_goto 73 rfl (fun _ => rfl) ?_
      exact dg_sp_settle_73 w c N D bb v2 v3 v4 s.1 s.2.1 (-1) q2 q3 q4 g5 g6 (rn_1) y25.2 n27 (jk [(7, j 7), (8, j 8), (9, j 9), (10, j 10)]) Q2 H1 H2
    · skip
      refine P_ld 62 (.ref 12) rfl (fun _ => rfl) ?_
      refine PK_gf 65 (.ref 21) rfl rfl kd_12 rfl rfl rfl ?_
      refine P_ld 66 (.ref 59) rfl (fun _ => rfl) ?_
      refine PK_gf 69 (.ref 63) rfl rfl kd_59 rfl rfl rfl ?_
      refine P_ld 71 (.int (i32 s.2.1)) rfl (fun _ => rfl) ?_
      refine PK_iald2 72 55 (y25.2.2 55) rfl rfl rfl g6 rfl ?_
      refine PK_aatb2 73 rfl (kE_i (KCn_a n27 55) rfl _) rfl (fun t29 => ?_)
      refine P_top (tbv_t t29) ?_
      exact dg_sp_settle_73 w c N D bb v2 v3 v4 s.1 s.2.1 ((y25.2.2 55) s.2.1) q2 q3 q4 g5 g6 (Rn_t t29) y25.2 n27 (jk [(7, j 7), (8, j 8), (9, j 9), (10, j 10)]) Q2 H1 H2
def kf_sp_settle (v2 : Int) (v3 : Int) (v4 : Int) (m : mR) : Option (Int × mR) :=
  bnd (kf_Arrays_fill0_b63 0 m) fun y30 =>
  bnd (kf_Arrays_fill0_b64 0 y30.2) fun y33 =>
  bnd (kf_Arrays_fill0_b65 0 y33.2) fun y36 =>
  bnd (whl (kfb_sp_settle_30 v2 v3 v4) (1, 0, y36.2)) (sel
    (fun e39 : Int × mR =>
      some (e39.1, e39.2))
    (fun e43 : Int × mR =>
      kfl_sp_settle_199 e43.1 e43.2))
theorem D_sp_settle (w : wX) (m : mR) (c : Nat → Option am_C) (N D : Nat) (hm : KCn m) (v2 : Int) (v3 : Int) (v4 : Int) (q2 : R32 v2) (q3 : R32 v3) (q4 : R32 v4) : PC w D 150 [.ref 59, .ref 12, .int (i32 v2), .int (i32 v3), .int (i32 v4)] (khp m c, N) (QS (FK1 c N) (kf_sp_settle v2 v3 v4 m)) := by
  refine Pc_of (fun D bb => ?_) D
  unfold kf_sp_settle
  show PP bb w D pm_150 (0, [(0, .ref 59), (1, .ref 12), (2, .int (i32 v2)), (3, .int (i32 v3)), (4, .int (i32 v4))], [], (khp (mO m [] []) c, N), 0, 0) _
  refine P_ld 1 (.ref 59) rfl (fun _ => rfl) ?_
  refine PK_gf 4 (.ref 71) rfl rfl kd_59 rfl rfl rfl ?_
  refine P_ld 5 (.int (i32 0)) rfl (fun _ => rfl) ?_
  refine P_ck0 8 25 [.ref 71, .int (i32 0)] [] rfl (fun _ => rfl) rfl (D_Arrays_fill0_b63 w m c N D hm 0 (l32 0 rfl)) (fun y30 n32 => ?_)
  refine P_ld 9 (.ref 59) rfl (fun _ => rfl) ?_
  refine PK_gf 12 (.ref 72) rfl rfl kd_59 rfl rfl rfl ?_
  refine P_ld 13 (.int (i32 0)) rfl (fun _ => rfl) ?_
  refine P_ck0 16 25 [.ref 72, .int (i32 0)] [] rfl (fun _ => rfl) rfl (D_Arrays_fill0_b64 w y30.2 c N D n32 0 (l32 0 rfl)) (fun y33 n35 => ?_)
  refine P_ld 17 (.ref 59) rfl (fun _ => rfl) ?_
  refine PK_gf 20 (.ref 73) rfl rfl kd_59 rfl rfl rfl ?_
  refine P_ld 21 (.int (i32 0)) rfl (fun _ => rfl) ?_
  refine P_ck0 24 25 [.ref 73, .int (i32 0)] [] rfl (fun _ => rfl) rfl (D_Arrays_fill0_b65 w y33.2 c N D n35 0 (l32 0 rfl)) (fun y36 n38 => ?_)
  refine P_ld 25 (.int (i32 1)) rfl (fun _ => rfl) ?_
  refine P_sto 27 [(5, .int (i32 1)), (0, .ref 59), (1, .ref 12), (2, .int (i32 v2)), (3, .int (i32 v3)), (4, .int (i32 v4))] rfl (fun _ => rfl) ?_
  refine P_ld 28 (.int (i32 0)) rfl (fun _ => rfl) ?_
  refine P_sto 30 [(6, .int (i32 0)), (5, .int (i32 1)), (0, .ref 59), (1, .ref 12), (2, .int (i32 v2)), (3, .int (i32 v3)), (4, .int (i32 v4))] rfl (fun _ => rfl) ?_
  refine P_lv (b := [(0, .ref 59), (1, .ref 12), (2, .int (i32 v2)), (3, .int (i32 v3)), (4, .int (i32 v4)), (5, .int (i32 1)), (6, .int (i32 0)), (7, tbv 0), (8, .int (i32 0)), (9, .int (i32 0)), (10, .int (i32 0))]) rfl rfl ⟨rfl, rfl, rfl, rfl, rfl, rfl, rfl, trivial⟩ ?_
  refine P_bnd ?_
  refine P_whl (fun bb Q2 H1 H2 s9 j9 hs9 => dh_sp_settle_30 w c N D v2 v3 v4 q2 q3 q4 bb Q2 H1 H2 s9 j9 hs9) bb (fun x0 j hx0 => ?_) (1, 0, y36.2) (jk []) ⟨(l32 1 rfl), (l32 0 rfl), n38⟩
  cases x0 with
  | inl e39 =>
    have q40 := hx0
    obtain ⟨q41, q42⟩ := q40
    show PP bb w D pm_150 (135, [(0, .ref 59), (1, .ref 12), (2, .int (i32 (j 2))), (3, .int (i32 (j 3))), (4, .int (i32 (j 4))), (5, .int (i32 (j 5))), (6, .int (i32 e39.1)), (7, tbv (j 7)), (8, .int (i32 (j 8))), (9, .int (i32 (j 9))), (10, .int (i32 (j 10)))], [], (khp (mO e39.2 [] []) c, N), 0, 0) (QS _ (some (e39.1, e39.2)))
    refine P_ld 137 (.int (i32 e39.1)) rfl (fun _ => rfl) ?_
    exact P_rk1 rfl q41 q42
  | inr e43 =>
    have q44 := hx0
    obtain ⟨q45, q46⟩ := q44
    show PP bb w D pm_150 (199, [(0, .ref 59), (1, .ref 12), (2, .int (i32 (j 2))), (3, .int (i32 (j 3))), (4, .int (i32 (j 4))), (5, .int (i32 e43.1)), (6, .int (i32 (j 6))), (7, tbv (j 7)), (8, .int (i32 (j 8))), (9, .int (i32 (j 9))), (10, .int (i32 (j 10)))], [], (khp (mO e43.2 [] []) c, N), 0, 0) (QS _ (kfl_sp_settle_199 e43.1 e43.2))
    exact dg_sp_settle_199 w c N D bb e43.1 q45 e43.2 q46 (jk [(2, j 2), (3, j 3), (4, j 4), (6, j 6), (7, j 7), (8, j 8), (9, j 9), (10, j 10)])
def kfl_pw_lay_49 (m : mR) : Option (Int × Int × mR) :=
  some (1, 0, m)
theorem dg_pw_lay_49 (w : wX) (c : Nat → Option am_C) (N D : Nat) (bb : Nat) (m : mR) (hm : KCn m) (j : Nat → Int) : PP bb w D pm_149 (49, [(0, .ref 0), (1, .int (i32 (j 1))), (2, .int (i32 (j 2))), (3, .int (i32 (j 3)))], [], (khp m c, N), 0, 0) (QS (FX1 c N) (kfl_pw_lay_49 m)) := by
  unfold kfl_pw_lay_49
  show PP bb w D pm_149 (49, [(0, .ref 0), (1, .int (i32 (j 1))), (2, .int (i32 (j 2))), (3, .int (i32 (j 3)))], [], (khp (mO m [] []) c, N), 0, 0) _
  exact P_thr rfl ⟨_, rfl, hm, Or.inr ⟨0, rfl, rfl⟩⟩
def kfl_pw_lay_20 (m : mR) : Option (Int × Int × mR) :=
  some (2, 0, m)
theorem dg_pw_lay_20 (w : wX) (c : Nat → Option am_C) (N D : Nat) (bb : Nat) (m : mR) (hm : KCn m) (j : Nat → Int) : PP bb w D pm_149 (20, [(0, .ref 0), (1, .int (i32 (j 1))), (2, .int (i32 (j 2))), (3, .int (i32 (j 3)))], [], (khp m c, N), 0, 0) (QS (FX1 c N) (kfl_pw_lay_20 m)) := by
  unfold kfl_pw_lay_20
  show PP bb w D pm_149 (20, [(0, .ref 0), (1, .int (i32 (j 1))), (2, .int (i32 (j 2))), (3, .int (i32 (j 3)))], [], (khp (mO m [] []) c, N), 0, 0) _
  exact P_thr rfl ⟨_, rfl, hm, Or.inr ⟨1, rfl, rfl⟩⟩
def kf_pw_lay (v1 : Int) (v2 : Int) (v3 : Int) (m : mR) : Option (Int × Int × mR) :=
  if m.1 201 = 0 then
    kfl_pw_lay_20 m
  else
    if m.1 226 ≤ 0 then
      if v1 < 1 then
        kfl_pw_lay_49 m
      else
        if (12 : Int) < v1 then
          kfl_pw_lay_49 m
        else
          if v2 < 0 then
            kfl_pw_lay_49 m
          else
            if (0 : Int) ≤ v3 then
              bnd (kf_sp_settle v1 v2 v3 m) fun y7 =>
              if y7.1 = (-1) then
                some (0, y7.2.1 226, (mO y7.2 [(202, y7.1)] []))
              else
                some (3, 0, (mO y7.2 [(202, y7.1)] []))
            else
              kfl_pw_lay_49 m
    else
      kfl_pw_lay_20 m
theorem D_pw_lay (w : wX) (m : mR) (c : Nat → Option am_C) (N D : Nat) (hm : KCn m) (v1 : Int) (v2 : Int) (v3 : Int) (q1 : R32 v1) (q2 : R32 v2) (q3 : R32 v3) : PC w D 149 [.ref 0, .int (i32 v1), .int (i32 v2), .int (i32 v3)] (khp m c, N) (QS (FX1 c N) (kf_pw_lay v1 v2 v3 m)) := by
  refine Pc_of (fun D bb => ?_) D
  unfold kf_pw_lay
  show PP bb w D pm_149 (0, [(0, .ref 0), (1, .int (i32 v1)), (2, .int (i32 v2)), (3, .int (i32 v3))], [], (khp (mO m [] []) c, N), 0, 0) _
  refine P_ld 1 (.ref 0) rfl (fun _ => rfl) ?_
  refine PK_gf 4 (.int (i32 (m.1 201))) rfl rfl kd_0 rfl rfl rfl ?_
  refine P_ifF 20 7 rfl rfl rfl (KCn_i hm 201 rfl) rfl (fun h1 => ?_) (fun h1 => ?_)
  · skip
    exact dg_pw_lay_20 w c N D bb m hm (jk [(1, v1), (2, v2), (3, v3)])
  · skip
    refine P_ld 8 (.ref 0) rfl (fun _ => rfl) ?_
    refine PK_gf 11 (.ref 12) rfl rfl kd_0 rfl rfl rfl ?_
    refine PK_gf 14 (.ref 59) rfl rfl kd_12 rfl rfl rfl ?_
    refine PK_gf 17 (.int (i32 (m.1 226))) rfl rfl kd_59 rfl rfl rfl ?_
    refine P_ifF 30 20 rfl rfl rfl (KCn_i hm 226 rfl) rfl (fun h2 => ?_) (fun h2 => ?_)
    · skip
      refine P_ld 31 (.int (i32 v1)) rfl (fun _ => rfl) ?_
      refine P_ld 32 (.int (i32 1)) rfl (fun _ => rfl) ?_
      refine P_icF 49 35 rfl rfl rfl q1 (l32 1 rfl) rfl (fun h3 => ?_) (fun h3 => ?_)
      · skip
        exact dg_pw_lay_49 w c N D bb m hm (jk [(1, v1), (2, v2), (3, v3)])
      · skip
        refine P_ld 36 (.int (i32 v1)) rfl (fun _ => rfl) ?_
        refine P_ld 38 (.int (i32 12)) rfl (fun _ => rfl) ?_
        refine P_icF 49 41 rfl rfl rfl q1 (l32 12 rfl) rfl (fun h4 => ?_) (fun h4 => ?_)
        · skip
          exact dg_pw_lay_49 w c N D bb m hm (jk [(1, v1), (2, v2), (3, v3)])
        · skip
          refine P_ld 42 (.int (i32 v2)) rfl (fun _ => rfl) ?_
          refine P_ifF 49 45 rfl rfl rfl q2 rfl (fun h5 => ?_) (fun h5 => ?_)
          · skip
            exact dg_pw_lay_49 w c N D bb m hm (jk [(1, v1), (2, v2), (3, v3)])
          · skip
            refine P_ld 46 (.int (i32 v3)) rfl (fun _ => rfl) ?_
            refine P_ifF 59 49 rfl rfl rfl q3 rfl (fun h6 => ?_) (fun h6 => ?_)
            · skip
              refine P_ld 60 (.ref 0) rfl (fun _ => rfl) ?_
              refine P_ld 61 (.ref 0) rfl (fun _ => rfl) ?_
              refine PK_gf 64 (.ref 12) rfl rfl kd_0 rfl rfl rfl ?_
              refine PK_gf 67 (.ref 59) rfl rfl kd_12 rfl rfl rfl ?_
              refine P_ld 68 (.ref 0) rfl (fun _ => rfl) ?_
              refine PK_gf 71 (.ref 12) rfl rfl kd_0 rfl rfl rfl ?_
              refine P_ld 72 (.int (i32 v1)) rfl (fun _ => rfl) ?_
              refine P_ld 73 (.int (i32 v2)) rfl (fun _ => rfl) ?_
              refine P_ld 74 (.int (i32 v3)) rfl (fun _ => rfl) ?_
              refine P_ck1 77 150 [.ref 59, .ref 12, .int (i32 v1), .int (i32 v2), .int (i32 v3)] [.ref 0] rfl (fun _ => rfl) rfl (D_sp_settle w m c N D hm v1 v2 v3 q1 q2 q3) (fun y7 h8 n9 => ?_)
              refine PK_pf (l' := [(202, y7.1)]) 80 y7.1 rfl rfl kd_0 rfl rfl rfl rfl rfl rfl rfl ?_
              refine P_ld 81 (.ref 0) rfl (fun _ => rfl) ?_
              refine PK_gf 84 (.int (i32 y7.1)) rfl rfl kd_0 rfl rfl rfl ?_
              refine P_ld 85 (.int (i32 (-1))) rfl (fun _ => rfl) ?_
              refine P_icF 98 88 rfl rfl rfl h8 (l32 (-1) rfl) rfl (fun h10 => ?_) (fun h10 => ?_)
              · skip
                refine P_ld 99 (.ref 0) rfl (fun _ => rfl) ?_
                refine PK_gf 102 (.ref 12) rfl rfl kd_0 rfl rfl rfl ?_
                refine PK_gf 105 (.ref 59) rfl rfl kd_12 rfl rfl rfl ?_
                refine PK_gf 108 (.int (i32 (y7.2.1 226))) rfl rfl kd_59 rfl rfl rfl ?_
                exact P_rx1 rfl (KCn_i n9 226 rfl) (KCn_mO n9 rfl rfl ⟨(kV_i rfl h8), trivial⟩ trivial)
              · skip
                exact P_thr rfl ⟨_, rfl, (KCn_mO n9 rfl rfl ⟨(kV_i rfl h8), trivial⟩ trivial), Or.inr ⟨2, rfl, rfl⟩⟩
            · skip
              exact dg_pw_lay_49 w c N D bb m hm (jk [(1, v1), (2, v2), (3, v3)])
    · skip
      exact dg_pw_lay_20 w c N D bb m hm (jk [(1, v1), (2, v2), (3, v3)])
end X28S
