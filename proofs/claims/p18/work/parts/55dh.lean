noncomputable section X55DH
def cs_op_leave_50 (B : oB) (s : Int × Int) : Prop := R32 s.1 ∧ R32 s.2
def cx_op_leave_50 (B : oB) : (Int) → Prop := (fun (e : Int) => R32 e)
def hd_op_leave_50 (B : oB) (c : Nat → Option am_C) (N : Nat) (v0 : Int) (m : mR) (s : Int × Int) (j : Nat → Int) : ag_St af_T := (50, [(0, .ref (obo B v0)), (1, .ref 12), (2, .int (i32 (j 2))), (3, .int (i32 s.1)), (4, .int (i32 s.2)), (5, .int (i32 (j 5))), (6, .int (i32 (j 6)))], [], (khp m c, N), 0, 0)
def ex_op_leave_50 (B : oB) (c : Nat → Option am_C) (N : Nat) (v0 : Int) (m : mR) : (Int) → (Nat → Int) → ag_St af_T := (fun (e : Int) (j : Nat → Int) => ((122, [(0, .ref (obo B v0)), (1, .ref 12), (2, .int (i32 (j 2))), (3, .int (i32 e)), (4, .int (i32 (j 4))), (5, .int (i32 (j 5))), (6, .int (i32 (j 6)))], [], (khp m c, N), 0, 0) : ag_St af_T))
def cs_op_leave_165 (B : oB) (s : Int × mR) : Prop := R32 s.1 ∧ KCo B s.2
def cx_op_leave_165 (B : oB) : (mR) → Prop := (fun (e : mR) => KCo B e)
def hd_op_leave_165 (B : oB) (c : Nat → Option am_C) (N : Nat) (v0 : Int) (v3 : Int) (s : Int × mR) (j : Nat → Int) : ag_St af_T := (165, [(0, .ref (obo B v0)), (1, .ref 12), (2, .int (i32 (j 2))), (3, .int (i32 v3)), (4, .int (i32 s.1)), (5, .int (i32 (j 5))), (6, .int (i32 (j 6)))], [], (khp s.2 c, N), 0, 0)
def ex_op_leave_165 (B : oB) (c : Nat → Option am_C) (N : Nat) (v0 : Int) (v3 : Int) : (mR) → (Nat → Int) → ag_St af_T := (fun (e : mR) (j : Nat → Int) => ((185, [(0, .ref (obo B v0)), (1, .ref 12), (2, .int (i32 (j 2))), (3, .int (i32 (j 3))), (4, .int (i32 (j 4))), (5, .int (i32 (j 5))), (6, .int (i32 (j 6)))], [], (khp e c, N), 0, 0) : ag_St af_T))
def cs_op_leave_191 (B : oB) (s : Int × Int × mR) : Prop := R32 s.1 ∧ R32 s.2.1 ∧ KCo B s.2.2
def cx_op_leave_191 (B : oB) : (mR) → Prop := (fun (e : mR) => KCo B e)
def hd_op_leave_191 (B : oB) (c : Nat → Option am_C) (N : Nat) (v0 : Int) (s : Int × Int × mR) (j : Nat → Int) : ag_St af_T := (191, [(0, .ref (obo B v0)), (1, .ref 12), (2, .int (i32 (j 2))), (3, .int (i32 (j 3))), (4, .int (i32 s.1)), (5, .int (i32 s.2.1)), (6, .int (i32 (j 6)))], [], (khp s.2.2 c, N), 0, 0)
def ex_op_leave_191 (B : oB) (c : Nat → Option am_C) (N : Nat) (v0 : Int) : (mR) → (Nat → Int) → ag_St af_T := (fun (e : mR) (j : Nat → Int) => ((222, [(0, .ref (obo B (j 0))), (1, .ref 12), (2, .int (i32 (j 2))), (3, .int (i32 (j 3))), (4, .int (i32 (j 4))), (5, .int (i32 (j 5))), (6, .int (i32 (j 6)))], [], (khp e c, N), 0, 0) : ag_St af_T))
def kfb_op_leave_191 (v0 : Int) (s : Int × Int × mR) : Option (Sum (Int × Int × mR) (mR)) :=
  if s.2.2.1 218 ≤ s.2.1 then
    some (.inr s.2.2)
  else
    bnd (kf_op_write v0 ((s.2.2.2 17) s.2.1) s.1 s.2.2) fun y6 =>
    some (.inl (y6.1, cut (s.2.1 + 1), y6.2))
theorem dh_op_leave_191 (B : oB) (w : wX) (c : Nat → Option am_C) (N D : Nat) (v0 : Int) (q0 : OKo B v0) (bb : Nat) (Q2 : Sum (Int × Int × mR) (mR) → ag_Re af_T → Prop) (H1 : ∀ s j, cs_op_leave_191 B s → PP bb w D pm_178 (hd_op_leave_191 B c N v0 s j) (Q2 (.inl s))) (H2 : ∀ x j, cx_op_leave_191 B x → PP bb w D pm_178 (ex_op_leave_191 B c N v0 x j) (Q2 (.inr x))) (s : Int × Int × mR) (j : Nat → Int) (hs : cs_op_leave_191 B s) : PP (bb + 1) w D pm_178 (hd_op_leave_191 B c N v0 s j) (QS Q2 (kfb_op_leave_191 v0 s)) := by
  obtain ⟨g4, g5, gm⟩ := hs
  unfold kfb_op_leave_191
  show PP (bb + 1) w D pm_178 (191, [(0, .ref (obo B v0)), (1, .ref 12), (2, .int (i32 (j 2))), (3, .int (i32 (j 3))), (4, .int (i32 s.1)), (5, .int (i32 s.2.1)), (6, .int (i32 (j 6)))], [], (khp (mO s.2.2 [] []) c, N), 0, 0) _
  refine P1_ld 193 (.int (i32 s.2.1)) rfl (fun _ => rfl) ?_
  refine P_ld 194 (.ref 12) rfl (fun _ => rfl) ?_
  refine PK_gf 197 (.int (i32 (s.2.2.1 218))) rfl rfl kd_12 rfl rfl rfl ?_
  refine P_icF 222 200 rfl rfl rfl g5 (KCn_i gm.1 218 rfl) rfl (fun h5 => ?_) (fun h5 => ?_)
  · skip
    refine P_some ?_
    exact H2 s.2.2 (jk [(0, v0), (2, j 2), (3, j 3), (4, s.1), (5, s.2.1), (6, j 6)]) gm
  · skip
    refine P_ld 201 (.ref (obo B v0)) rfl (fun _ => rfl) ?_
    refine P_ld 202 (.ref 12) rfl (fun _ => rfl) ?_
    refine P_ld 203 (.ref 12) rfl (fun _ => rfl) ?_
    refine PK_gf 206 (.ref 20) rfl rfl kd_12 rfl rfl rfl ?_
    refine P_ld 208 (.int (i32 s.2.1)) rfl (fun _ => rfl) ?_
    refine PK_iald2 209 17 (s.2.2.2 17) rfl rfl rfl g5 rfl ?_
    refine P_ld 211 (.int (i32 s.1)) rfl (fun _ => rfl) ?_
    refine P_co1 214 179 [.ref (obo B v0), .ref 12, .int (i32 ((s.2.2.2 17) s.2.1)), .int (i32 s.1)] [] rfl (inv_vt (args := [.int (i32 s.1), .int (i32 ((s.2.2.2 17) s.2.1)), .ref 12]) (khp_oo gm rfl rfl q0) rfl rfl rfl) rfl (D_op_write B w s.2.2 c N D gm v0 ((s.2.2.2 17) s.2.1) s.1 q0 (kE_i (KCn_a gm.1 17) rfl _) g4) (fun y6 h7 n8 => ?_)
    refine P_sto 216 [(4, .int (i32 y6.1)), (0, .ref (obo B v0)), (1, .ref 12), (2, .int (i32 (j 2))), (3, .int (i32 (j 3))), (5, .int (i32 s.2.1)), (6, .int (i32 (j 6)))] rfl (fun _ => rfl) ?_
    refine P_inc 219 [(5, .int (i32 (cut (s.2.1 + 1)))), (4, .int (i32 y6.1)), (0, .ref (obo B v0)), (1, .ref 12), (2, .int (i32 (j 2))), (3, .int (i32 (j 3))), (6, .int (i32 (j 6)))] rfl rfl (by decide) rfl rfl ?_
    refine P_goto 191 rfl (fun _ => rfl) ?_
    refine P_some ?_
    refine P_lv (b := [(0, .ref (obo B v0)), (1, .ref 12), (2, .int (i32 (j 2))), (3, .int (i32 (j 3))), (4, .int (i32 y6.1)), (5, .int (i32 (cut (s.2.1 + 1)))), (6, .int (i32 (j 6)))]) rfl rfl ⟨rfl, rfl, rfl, rfl, rfl, rfl, rfl, trivial⟩ ?_
    exact H1 (y6.1, cut (s.2.1 + 1), y6.2) (jk [(2, j 2), (3, j 3), (6, j 6)]) ⟨h7, cut_r, n8⟩
def kfl_op_leave_185 (v0 : Int) (m : mR) : Option (Int × mR) :=
  bnd (whl (kfb_op_leave_191 v0) (0, 0, m)) (fun e9 : mR =>
    some (0, e9))
theorem dg_op_leave_185 (B : oB) (w : wX) (c : Nat → Option am_C) (N D : Nat) (bb : Nat) (v0 : Int) (q0 : OKo B v0) (m : mR) (hm : KCo B m) (j : Nat → Int) : PP bb w D pm_178 (185, [(0, .ref (obo B v0)), (1, .ref 12), (2, .int (i32 (j 2))), (3, .int (i32 (j 3))), (4, .int (i32 (j 4))), (5, .int (i32 (j 5))), (6, .int (i32 (j 6)))], [], (khp m c, N), 0, 0) (QS (FO0 B c N) (kfl_op_leave_185 v0 m)) := by
  unfold kfl_op_leave_185
  show PP bb w D pm_178 (185, [(0, .ref (obo B v0)), (1, .ref 12), (2, .int (i32 (j 2))), (3, .int (i32 (j 3))), (4, .int (i32 (j 4))), (5, .int (i32 (j 5))), (6, .int (i32 (j 6)))], [], (khp (mO m [] []) c, N), 0, 0) _
  refine P_ld 186 (.int (i32 0)) rfl (fun _ => rfl) ?_
  refine P_sto 188 [(4, .int (i32 0)), (0, .ref (obo B v0)), (1, .ref 12), (2, .int (i32 (j 2))), (3, .int (i32 (j 3))), (5, .int (i32 (j 5))), (6, .int (i32 (j 6)))] rfl (fun _ => rfl) ?_
  refine P_ld 189 (.int (i32 0)) rfl (fun _ => rfl) ?_
  refine P_sto 191 [(5, .int (i32 0)), (4, .int (i32 0)), (0, .ref (obo B v0)), (1, .ref 12), (2, .int (i32 (j 2))), (3, .int (i32 (j 3))), (6, .int (i32 (j 6)))] rfl (fun _ => rfl) ?_
  refine P_lv (b := [(0, .ref (obo B v0)), (1, .ref 12), (2, .int (i32 (j 2))), (3, .int (i32 (j 3))), (4, .int (i32 0)), (5, .int (i32 0)), (6, .int (i32 (j 6)))]) rfl rfl ⟨rfl, rfl, rfl, rfl, rfl, rfl, rfl, trivial⟩ ?_
  refine P_bnd ?_
  refine P_whl (fun bb Q2 H1 H2 s9 j9 hs9 => dh_op_leave_191 B w c N D v0 q0 bb Q2 H1 H2 s9 j9 hs9) bb (fun e9 j q10 => ?_) (0, 0, m) (jk [(2, j 2), (3, j 3), (6, j 6)]) ⟨(l32 0 rfl), (l32 0 rfl), hm⟩
  have q11 := q10
  show PP bb w D pm_178 (222, [(0, .ref (obo B (j 0))), (1, .ref 12), (2, .int (i32 (j 2))), (3, .int (i32 (j 3))), (4, .int (i32 (j 4))), (5, .int (i32 (j 5))), (6, .int (i32 (j 6)))], [], (khp (mO e9 [] []) c, N), 0, 0) (QS _ (some (0, e9)))
  exact P_ro0 rfl rfl q11
def kfb_op_leave_165 (v0 : Int) (v3 : Int) (s : Int × mR) : Option (Sum (Int × mR) (mR)) :=
  if v3 ≤ s.1 then
    some (.inr s.2)
  else
    some (.inl (cut (s.1 + 1), (mO s.2 [] [(100, upI (s.2.2 100) (65536 * v0 + s.1) (nar2 0))])))
theorem dh_op_leave_165 (B : oB) (w : wX) (c : Nat → Option am_C) (N D : Nat) (v0 : Int) (v3 : Int) (q0 : OKo B v0) (q3 : R32 v3) (bb : Nat) (Q2 : Sum (Int × mR) (mR) → ag_Re af_T → Prop) (H1 : ∀ s j, cs_op_leave_165 B s → PP bb w D pm_178 (hd_op_leave_165 B c N v0 v3 s j) (Q2 (.inl s))) (H2 : ∀ x j, cx_op_leave_165 B x → PP bb w D pm_178 (ex_op_leave_165 B c N v0 v3 x j) (Q2 (.inr x))) (s : Int × mR) (j : Nat → Int) (hs : cs_op_leave_165 B s) : PP (bb + 1) w D pm_178 (hd_op_leave_165 B c N v0 v3 s j) (QS Q2 (kfb_op_leave_165 v0 v3 s)) := by
  obtain ⟨g4, gm⟩ := hs
  unfold kfb_op_leave_165
  show PP (bb + 1) w D pm_178 (165, [(0, .ref (obo B v0)), (1, .ref 12), (2, .int (i32 (j 2))), (3, .int (i32 v3)), (4, .int (i32 s.1)), (5, .int (i32 (j 5))), (6, .int (i32 (j 6)))], [], (khp (mO s.2 [] []) c, N), 0, 0) _
  refine P1_ld 167 (.int (i32 s.1)) rfl (fun _ => rfl) ?_
  refine P_ld 168 (.int (i32 v3)) rfl (fun _ => rfl) ?_
  refine P_icF 185 171 rfl rfl rfl g4 q3 rfl (fun h13 => ?_) (fun h13 => ?_)
  · skip
    refine P_some ?_
    exact H2 s.2 (jk [(2, j 2), (3, v3), (4, s.1), (5, j 5), (6, j 6)]) gm
  · skip
    refine P_ld 172 (.ref (obo B v0)) rfl (fun _ => rfl) ?_
    refine PK_gor 175 rfl rfl (OKr_o gm rfl rfl q0) (obr_o gm rfl) rfl ?_
    refine P_ld 177 (.int (i32 s.1)) rfl (fun _ => rfl) ?_
    refine P_ld 178 (.int (i32 0)) rfl (fun _ => rfl) ?_
    refine PK_basto2 (a' := [(100, upI (s.2.2 100) (65536 * v0 + s.1) (nar2 0))]) 179 0 (s.2.2 100) rfl rfl rfl gm rfl rfl q0 g4 rfl rfl ?_
    refine P_inc 182 [(4, .int (i32 (cut (s.1 + 1)))), (0, .ref (obo B v0)), (1, .ref 12), (2, .int (i32 (j 2))), (3, .int (i32 v3)), (5, .int (i32 (j 5))), (6, .int (i32 (j 6)))] rfl rfl (by decide) rfl rfl ?_
    refine P_goto 165 rfl (fun _ => rfl) ?_
    refine P_some ?_
    refine P_lv (b := [(0, .ref (obo B v0)), (1, .ref 12), (2, .int (i32 (j 2))), (3, .int (i32 v3)), (4, .int (i32 (cut (s.1 + 1)))), (5, .int (i32 (j 5))), (6, .int (i32 (j 6)))]) rfl rfl ⟨rfl, rfl, rfl, rfl, rfl, rfl, rfl, trivial⟩ ?_
    exact H1 (cut (s.1 + 1), (mO s.2 [] [(100, upI (s.2.2 100) (65536 * v0 + s.1) (nar2 0))])) (jk [(2, j 2), (5, j 5), (6, j 6)]) ⟨cut_r, (KCo_mO gm rfl rfl (KC6 gm rfl) trivial ⟨(kE_ui (KCn_a gm.1 100) rfl t32_r), trivial⟩)⟩
def kfl_op_leave_122 (v0 : Int) (v3 : Int) (m : mR) : Option (Int × mR) :=
  bnd (whl (kfb_op_leave_165 v0 v3) (0, (mO m [] [(92, upI (m.2 92) v0 (cut ((cut (v3 + ((m.2 92) v0))) - ((m.2 94) v0)))), (100, cpI (m.2 100) (m.2 100) (65536 * v0 + ((m.2 94) v0)) (65536 * v0 + v3) (cut (((m.2 92) v0) - ((m.2 94) v0))))]))) (fun e14 : mR =>
    kfl_op_leave_185 v0 e14)
theorem dg_op_leave_122 (B : oB) (w : wX) (c : Nat → Option am_C) (N D : Nat) (bb : Nat) (v0 : Int) (v3 : Int) (q0 : OKo B v0) (q3 : R32 v3) (m : mR) (hm : KCo B m) (j : Nat → Int) : PP bb w D pm_178 (122, [(0, .ref (obo B v0)), (1, .ref 12), (2, .int (i32 (j 2))), (3, .int (i32 v3)), (4, .int (i32 (j 4))), (5, .int (i32 (j 5))), (6, .int (i32 (j 6)))], [], (khp m c, N), 0, 0) (QS (FO0 B c N) (kfl_op_leave_122 v0 v3 m)) := by
  unfold kfl_op_leave_122
  show PP bb w D pm_178 (122, [(0, .ref (obo B v0)), (1, .ref 12), (2, .int (i32 (j 2))), (3, .int (i32 v3)), (4, .int (i32 (j 4))), (5, .int (i32 (j 5))), (6, .int (i32 (j 6)))], [], (khp (mO m [] []) c, N), 0, 0) _
  refine P_ld 123 (.ref (obo B v0)) rfl (fun _ => rfl) ?_
  refine PK_gor 126 rfl rfl (OKr_o hm rfl rfl q0) (obr_o hm rfl) rfl ?_
  refine P_ld 127 (.ref (obo B v0)) rfl (fun _ => rfl) ?_
  refine PK_goi 130 94 (m.2 94) rfl rfl (OKr_o hm rfl rfl q0) (obr_o hm rfl) rfl rfl ?_
  refine P_ld 131 (.ref (obo B v0)) rfl (fun _ => rfl) ?_
  refine PK_gor 134 rfl rfl (OKr_o hm rfl rfl q0) (obr_o hm rfl) rfl ?_
  refine P_ld 135 (.int (i32 v3)) rfl (fun _ => rfl) ?_
  refine P_ld 136 (.ref (obo B v0)) rfl (fun _ => rfl) ?_
  refine PK_goi 139 92 (m.2 92) rfl rfl (OKr_o hm rfl rfl q0) (obr_o hm rfl) rfl rfl ?_
  refine P_ld 140 (.ref (obo B v0)) rfl (fun _ => rfl) ?_
  refine PK_goi 143 94 (m.2 94) rfl rfl (OKr_o hm rfl rfl q0) (obr_o hm rfl) rfl rfl ?_
  refine P_op 144 (cut (((m.2 92) v0) - ((m.2 94) v0))) _ rfl (fun _ => rfl) o_sub ?_
  refine PK_cpb2 (a' := [(100, cpI (m.2 100) (m.2 100) (65536 * v0 + ((m.2 94) v0)) (65536 * v0 + v3) (cut (((m.2 92) v0) - ((m.2 94) v0))))]) 147 0 (m.2 100) (m.2 100) (65536 * v0) rfl rfl rfl rfl (kar_to hm rfl rfl 0 rfl q0) (ka1_o (by decide) rfl) (fun j => kE_i (KCn_a hm.1 100) rfl j) hm rfl rfl q0 (kE_i (KCn_a hm.1 94) rfl _) q3 cut_r (by decide) rfl rfl ?_
  refine P_ld 148 (.ref (obo B v0)) rfl (fun _ => rfl) ?_
  refine P_ld 149 (.int (i32 v3)) rfl (fun _ => rfl) ?_
  refine P_ld 150 (.ref (obo B v0)) rfl (fun _ => rfl) ?_
  refine PK_goi 153 92 (m.2 92) rfl rfl (OKr_o hm rfl rfl q0) (obr_o hm rfl) rfl rfl ?_
  refine P_op 154 (cut (v3 + ((m.2 92) v0))) _ rfl (fun _ => rfl) o_add ?_
  refine P_ld 155 (.ref (obo B v0)) rfl (fun _ => rfl) ?_
  refine PK_goi 158 94 (m.2 94) rfl rfl (OKr_o hm rfl rfl q0) (obr_o hm rfl) rfl rfl ?_
  refine P_op 159 (cut ((cut (v3 + ((m.2 92) v0))) - ((m.2 94) v0))) _ rfl (fun _ => rfl) o_sub ?_
  refine PK_poi (a' := [(92, upI (m.2 92) v0 (cut ((cut (v3 + ((m.2 92) v0))) - ((m.2 94) v0)))), (100, cpI (m.2 100) (m.2 100) (65536 * v0 + ((m.2 94) v0)) (65536 * v0 + v3) (cut (((m.2 92) v0) - ((m.2 94) v0))))]) 162 92 (m.2 92) rfl rfl rfl (OKr_o hm rfl rfl q0) (OWu_o hm rfl rfl) (obr_o hm rfl) rfl rfl rfl ?_
  refine P_ld 163 (.int (i32 0)) rfl (fun _ => rfl) ?_
  refine P_sto 165 [(4, .int (i32 0)), (0, .ref (obo B v0)), (1, .ref 12), (2, .int (i32 (j 2))), (3, .int (i32 v3)), (5, .int (i32 (j 5))), (6, .int (i32 (j 6)))] rfl (fun _ => rfl) ?_
  refine P_lv (b := [(0, .ref (obo B v0)), (1, .ref 12), (2, .int (i32 (j 2))), (3, .int (i32 v3)), (4, .int (i32 0)), (5, .int (i32 (j 5))), (6, .int (i32 (j 6)))]) rfl rfl ⟨rfl, rfl, rfl, rfl, rfl, rfl, rfl, trivial⟩ ?_
  refine P_bnd ?_
  refine P_whl (fun bb Q2 H1 H2 s9 j9 hs9 => dh_op_leave_165 B w c N D v0 v3 q0 q3 bb Q2 H1 H2 s9 j9 hs9) bb (fun e14 j q15 => ?_) (0, (mO m [] [(92, upI (m.2 92) v0 (cut ((cut (v3 + ((m.2 92) v0))) - ((m.2 94) v0)))), (100, cpI (m.2 100) (m.2 100) (65536 * v0 + ((m.2 94) v0)) (65536 * v0 + v3) (cut (((m.2 92) v0) - ((m.2 94) v0))))])) (jk [(2, j 2), (5, j 5), (6, j 6)]) ⟨(l32 0 rfl), (KCo_mO hm rfl rfl (KC6 hm rfl) trivial ⟨(kE_ui (KCn_a hm.1 92) rfl cut_r), (kE_cp (KCn_a hm.1 100) (KCn_a hm.1 100) rfl), trivial⟩)⟩
  have q16 := q15
  show PP bb w D pm_178 (185, [(0, .ref (obo B v0)), (1, .ref 12), (2, .int (i32 (j 2))), (3, .int (i32 (j 3))), (4, .int (i32 (j 4))), (5, .int (i32 (j 5))), (6, .int (i32 (j 6)))], [], (khp (mO e14 [] []) c, N), 0, 0) (QS _ (kfl_op_leave_185 v0 e14))
  exact dg_op_leave_185 B w c N D bb v0 q0 e14 q16 (jk [(2, j 2), (3, j 3), (4, j 4), (5, j 5), (6, j 6)])
def kfl_op_leave_114 (v0 : Int) (v4 : Int) (u0 : Int) (u1 : Int) (m : mR) : Option (Sum (Int × Int) (Int)) :=
  some (.inl (cut (u0 + u1), cut (v4 + 1)))
theorem dg_op_leave_114 (B : oB) (w : wX) (c : Nat → Option am_C) (N D : Nat) (bb : Nat) (v0 : Int) (v4 : Int) (u0 : Int) (u1 : Int) (q0 : OKo B v0) (q4 : R32 v4) (r0 : R32 u0) (r1 : R32 u1) (m : mR) (hm : KCo B m) (j : Nat → Int) (Q2 : Sum (Int × Int) (Int) → ag_Re af_T → Prop) (H1 : ∀ s j, cs_op_leave_50 B s → PP bb w D pm_178 (hd_op_leave_50 B c N v0 m s j) (Q2 (.inl s))) (H2 : ∀ x j, cx_op_leave_50 B x → PP bb w D pm_178 (ex_op_leave_50 B c N v0 m x j) (Q2 (.inr x))) : PP bb w D pm_178 (114, [(0, .ref (obo B v0)), (1, .ref 12), (2, .int (i32 (j 2))), (3, .int (i32 (j 3))), (4, .int (i32 v4)), (5, .int (i32 (j 5))), (6, .int (i32 (j 6)))], [.int (i32 u1), .int (i32 u0)], (khp m c, N), 0, 0) (QS Q2 (kfl_op_leave_114 v0 v4 u0 u1 m)) := by
  unfold kfl_op_leave_114
  show PP bb w D pm_178 (114, [(0, .ref (obo B v0)), (1, .ref 12), (2, .int (i32 (j 2))), (3, .int (i32 (j 3))), (4, .int (i32 v4)), (5, .int (i32 (j 5))), (6, .int (i32 (j 6)))], [.int (i32 u1), .int (i32 u0)], (khp (mO m [] []) c, N), 0, 0) _
  refine P_op 115 (cut (u0 + u1)) _ rfl (fun _ => rfl) o_add ?_
  refine P_sto 116 [(3, .int (i32 (cut (u0 + u1)))), (0, .ref (obo B v0)), (1, .ref 12), (2, .int (i32 (j 2))), (4, .int (i32 v4)), (5, .int (i32 (j 5))), (6, .int (i32 (j 6)))] rfl (fun _ => rfl) ?_
  refine P_inc 119 [(4, .int (i32 (cut (v4 + 1)))), (3, .int (i32 (cut (u0 + u1)))), (0, .ref (obo B v0)), (1, .ref 12), (2, .int (i32 (j 2))), (5, .int (i32 (j 5))), (6, .int (i32 (j 6)))] rfl rfl (by decide) rfl rfl ?_
  refine P_goto 50 rfl (fun _ => rfl) ?_
  refine P_some ?_
  refine P_lv (b := [(0, .ref (obo B v0)), (1, .ref 12), (2, .int (i32 (j 2))), (3, .int (i32 (cut (u0 + u1)))), (4, .int (i32 (cut (v4 + 1)))), (5, .int (i32 (j 5))), (6, .int (i32 (j 6)))]) rfl rfl ⟨rfl, rfl, rfl, rfl, rfl, rfl, rfl, trivial⟩ ?_
  exact H1 (cut (u0 + u1), cut (v4 + 1)) (jk [(2, j 2), (5, j 5), (6, j 6)]) ⟨cut_r, cut_r⟩
def kfl_op_leave_88 (v0 : Int) (v3 : Int) (v4 : Int) (v5 : Int) (u0 : Int) (m : mR) : Option (Sum (Int × Int) (Int)) :=
  if u0 = 0 then
    kfl_op_leave_114 v0 v4 v3 0 m
  else
    bnd (kf_pr_headerBits ((m.2 13) v5) m) fun y18 =>
    kfl_op_leave_114 v0 v4 v3 (y18.tdiv 8) m
theorem dg_op_leave_88 (B : oB) (w : wX) (c : Nat → Option am_C) (N D : Nat) (bb : Nat) (v0 : Int) (v3 : Int) (v4 : Int) (v5 : Int) (u0 : Int) (q0 : OKo B v0) (q3 : R32 v3) (q4 : R32 v4) (q5 : R32 v5) (r0 : R32 u0) (m : mR) (hm : KCo B m) (j : Nat → Int) (Q2 : Sum (Int × Int) (Int) → ag_Re af_T → Prop) (H1 : ∀ s j, cs_op_leave_50 B s → PP bb w D pm_178 (hd_op_leave_50 B c N v0 m s j) (Q2 (.inl s))) (H2 : ∀ x j, cx_op_leave_50 B x → PP bb w D pm_178 (ex_op_leave_50 B c N v0 m x j) (Q2 (.inr x))) : PP bb w D pm_178 (88, [(0, .ref (obo B v0)), (1, .ref 12), (2, .int (i32 (j 2))), (3, .int (i32 v3)), (4, .int (i32 v4)), (5, .int (i32 v5)), (6, .int (i32 (j 6)))], [.int (i32 u0)], (khp m c, N), 0, 0) (QS Q2 (kfl_op_leave_88 v0 v3 v4 v5 u0 m)) := by
  unfold kfl_op_leave_88
  show PP bb w D pm_178 (88, [(0, .ref (obo B v0)), (1, .ref 12), (2, .int (i32 (j 2))), (3, .int (i32 v3)), (4, .int (i32 v4)), (5, .int (i32 v5)), (6, .int (i32 (j 6)))], [.int (i32 u0)], (khp (mO m [] []) c, N), 0, 0) _
  refine P_sto 90 [(6, .int (i32 u0)), (0, .ref (obo B v0)), (1, .ref 12), (2, .int (i32 (j 2))), (3, .int (i32 v3)), (4, .int (i32 v4)), (5, .int (i32 v5))] rfl (fun _ => rfl) ?_
  refine P_ld 91 (.int (i32 v3)) rfl (fun _ => rfl) ?_
  refine P_ld 93 (.int (i32 u0)) rfl (fun _ => rfl) ?_
  refine P_ifF 113 96 rfl rfl rfl r0 rfl (fun h17 => ?_) (fun h17 => ?_)
  · skip
    refine P_ld 114 (.int (i32 0)) rfl (fun _ => rfl) ?_
    refine P_lv (b := [(0, .ref (obo B v0)), (1, .ref 12), (2, .int (i32 (j 2))), (3, .int (i32 v3)), (4, .int (i32 v4)), (5, .int (i32 v5)), (6, .int (i32 u0))]) rfl rfl ⟨rfl, rfl, rfl, rfl, rfl, rfl, rfl, trivial⟩ ?_
    exact dg_op_leave_114 B w c N D bb v0 v4 v3 0 q0 q4 q3 (l32 0 rfl) m hm (jk [(2, j 2), (3, v3), (5, v5), (6, u0)]) Q2 H1 H2
  · skip
    refine P_ld 97 (.ref 12) rfl (fun _ => rfl) ?_
    refine P_ld 98 (.ref 12) rfl (fun _ => rfl) ?_
    refine PK_gf 101 (.ref 16) rfl rfl kd_12 rfl rfl rfl ?_
    refine P_ld 103 (.int (i32 v5)) rfl (fun _ => rfl) ?_
    refine PK_iald2 104 13 (m.2 13) rfl rfl rfl q5 rfl ?_
    refine P_cp1 107 29 [.ref 12, .int (i32 ((m.2 13) v5))] [.int (i32 v3)] rfl (fun _ => rfl) rfl (D_pr_headerBits w m c N D hm.1 ((m.2 13) v5) (kE_i (KCn_a hm.1 13) rfl _)) (fun y18 h19 => ?_)
    refine P_ld 109 (.int (i32 8)) rfl (fun _ => rfl) ?_
    refine P_div 110 rfl rfl h19 (by decide) (by decide) ?_
    refine P_goto 114 rfl (fun _ => rfl) ?_
    refine P_lv (b := [(0, .ref (obo B v0)), (1, .ref 12), (2, .int (i32 (j 2))), (3, .int (i32 v3)), (4, .int (i32 v4)), (5, .int (i32 v5)), (6, .int (i32 u0))]) rfl rfl ⟨rfl, rfl, rfl, rfl, rfl, rfl, rfl, trivial⟩ ?_
    exact dg_op_leave_114 B w c N D bb v0 v4 v3 (y18.tdiv 8) q0 q4 q3 (tdiv_r h19 (by decide)) m hm (jk [(2, j 2), (3, v3), (5, v5), (6, u0)]) Q2 H1 H2
def kfb_op_leave_50 (v0 : Int) (m : mR) (s : Int × Int) : Option (Sum (Int × Int) (Int)) :=
  if m.1 218 ≤ s.2 then
    some (.inr s.1)
  else
    if cmp64 ((m.2 101) (65536 * v0 + (cut (((m.2 17) s.2) * 17)))) 0 = 0 then
      kfl_op_leave_88 v0 s.1 s.2 ((m.2 17) s.2) 0 m
    else
      kfl_op_leave_88 v0 s.1 s.2 ((m.2 17) s.2) 1 m
theorem dh_op_leave_50 (B : oB) (w : wX) (c : Nat → Option am_C) (N D : Nat) (v0 : Int) (q0 : OKo B v0) (m : mR) (hm : KCo B m) (bb : Nat) (Q2 : Sum (Int × Int) (Int) → ag_Re af_T → Prop) (H1 : ∀ s j, cs_op_leave_50 B s → PP bb w D pm_178 (hd_op_leave_50 B c N v0 m s j) (Q2 (.inl s))) (H2 : ∀ x j, cx_op_leave_50 B x → PP bb w D pm_178 (ex_op_leave_50 B c N v0 m x j) (Q2 (.inr x))) (s : Int × Int) (j : Nat → Int) (hs : cs_op_leave_50 B s) : PP (bb + 1) w D pm_178 (hd_op_leave_50 B c N v0 m s j) (QS Q2 (kfb_op_leave_50 v0 m s)) := by
  obtain ⟨g3, g4⟩ := hs
  unfold kfb_op_leave_50
  show PP (bb + 1) w D pm_178 (50, [(0, .ref (obo B v0)), (1, .ref 12), (2, .int (i32 (j 2))), (3, .int (i32 s.1)), (4, .int (i32 s.2)), (5, .int (i32 (j 5))), (6, .int (i32 (j 6)))], [], (khp (mO m [] []) c, N), 0, 0) _
  refine P1_ld 52 (.int (i32 s.2)) rfl (fun _ => rfl) ?_
  refine P_ld 53 (.ref 12) rfl (fun _ => rfl) ?_
  refine PK_gf 56 (.int (i32 (m.1 218))) rfl rfl kd_12 rfl rfl rfl ?_
  refine P_icF 122 59 rfl rfl rfl g4 (KCn_i hm.1 218 rfl) rfl (fun h22 => ?_) (fun h22 => ?_)
  · skip
    refine P_some ?_
    exact H2 s.1 (jk [(2, j 2), (4, s.2), (5, j 5), (6, j 6)]) g3
  · skip
    refine P_ld 60 (.ref 12) rfl (fun _ => rfl) ?_
    refine PK_gf 63 (.ref 20) rfl rfl kd_12 rfl rfl rfl ?_
    refine P_ld 65 (.int (i32 s.2)) rfl (fun _ => rfl) ?_
    refine PK_iald2 66 17 (m.2 17) rfl rfl rfl g4 rfl ?_
    refine P_sto 68 [(5, .int (i32 ((m.2 17) s.2))), (0, .ref (obo B v0)), (1, .ref 12), (2, .int (i32 (j 2))), (3, .int (i32 s.1)), (4, .int (i32 s.2)), (6, .int (i32 (j 6)))] rfl (fun _ => rfl) ?_
    refine P_ld 69 (.ref (obo B v0)) rfl (fun _ => rfl) ?_
    refine PK_gor 72 rfl rfl (OKr_o hm rfl rfl q0) (obr_o hm rfl) rfl ?_
    refine P_ld 74 (.int (i32 ((m.2 17) s.2))) rfl (fun _ => rfl) ?_
    refine P_ld 76 (.int (i32 17)) rfl (fun _ => rfl) ?_
    refine P_op 77 (cut (((m.2 17) s.2) * 17)) _ rfl (fun _ => rfl) o_mul ?_
    refine PK_lalo2 78 1 (m.2 101) rfl rfl rfl hm rfl rfl q0 cut_r rfl ?_
    refine P_ld 79 (.long (i64 0)) rfl (fun _ => rfl) ?_
    refine P_op 80 (cmp64 ((m.2 101) (65536 * v0 + (cut (((m.2 17) s.2) * 17)))) 0) _ rfl (fun _ => rfl) (o_cmp (kE_l (KCn_a hm.1 101) rfl _) (l64 0 rfl)) ?_
    refine P_ifF 87 83 rfl rfl rfl cmp64_r rfl (fun h23 => ?_) (fun h23 => ?_)
    · skip
      refine P_ld 88 (.int (i32 0)) rfl (fun _ => rfl) ?_
      refine P_lv (b := [(0, .ref (obo B v0)), (1, .ref 12), (2, .int (i32 (j 2))), (3, .int (i32 s.1)), (4, .int (i32 s.2)), (5, .int (i32 ((m.2 17) s.2))), (6, .int (i32 (j 6)))]) rfl rfl ⟨rfl, rfl, rfl, rfl, rfl, rfl, rfl, trivial⟩ ?_
      exact dg_op_leave_88 B w c N D bb v0 s.1 s.2 ((m.2 17) s.2) 0 q0 g3 g4 (kE_i (KCn_a hm.1 17) rfl _) (l32 0 rfl) m hm (jk [(2, j 2), (6, j 6)]) Q2 H1 H2
    · skip
      refine P_ld 84 (.int (i32 1)) rfl (fun _ => rfl) ?_
      refine P_goto 88 rfl (fun _ => rfl) ?_
      refine P_lv (b := [(0, .ref (obo B v0)), (1, .ref 12), (2, .int (i32 (j 2))), (3, .int (i32 s.1)), (4, .int (i32 s.2)), (5, .int (i32 ((m.2 17) s.2))), (6, .int (i32 (j 6)))]) rfl rfl ⟨rfl, rfl, rfl, rfl, rfl, rfl, rfl, trivial⟩ ?_
      exact dg_op_leave_88 B w c N D bb v0 s.1 s.2 ((m.2 17) s.2) 1 q0 g3 g4 (kE_i (KCn_a hm.1 17) rfl _) (l32 1 rfl) m hm (jk [(2, j 2), (6, j 6)]) Q2 H1 H2
def kfl_op_leave_37 (v0 : Int) (m : mR) : Option (Int × mR) :=
  bnd (kf_op_isSent v0 m) fun y24 =>
  if y24 = 0 then
    some (0, m)
  else
    bnd (whl (kfb_op_leave_50 v0 m) (0, 0)) (fun e28 : Int =>
      kfl_op_leave_122 v0 e28 m)
theorem dg_op_leave_37 (B : oB) (w : wX) (c : Nat → Option am_C) (N D : Nat) (bb : Nat) (v0 : Int) (q0 : OKo B v0) (m : mR) (hm : KCo B m) (j : Nat → Int) : PP bb w D pm_178 (37, [(0, .ref (obo B v0)), (1, .ref 12), (2, .int (i32 (j 2)))], [], (khp m c, N), 0, 0) (QS (FO0 B c N) (kfl_op_leave_37 v0 m)) := by
  unfold kfl_op_leave_37
  show PP bb w D pm_178 (37, [(0, .ref (obo B v0)), (1, .ref 12), (2, .int (i32 (j 2)))], [], (khp (mO m [] []) c, N), 0, 0) _
  refine P_ld 38 (.ref (obo B v0)) rfl (fun _ => rfl) ?_
  refine P_cp1 41 36 [.ref (obo B v0)] [] rfl (inv_vt (args := []) (khp_oo hm rfl rfl q0) rfl rfl rfl) rfl (D_op_isSent B w m c N D hm v0 q0) (fun y24 h25 => ?_)
  refine P_ifE 45 44 rfl rfl rfl h25 rfl (fun h27 => ?_) (fun h27 => ?_)
  · skip
    exact P_ro0 rfl rfl hm
  · skip
    refine P_ld 46 (.int (i32 0)) rfl (fun _ => rfl) ?_
    refine P_sto 47 [(3, .int (i32 0)), (0, .ref (obo B v0)), (1, .ref 12), (2, .int (i32 (j 2)))] rfl (fun _ => rfl) ?_
    refine P_ld 48 (.int (i32 0)) rfl (fun _ => rfl) ?_
    refine P_sto 50 [(4, .int (i32 0)), (3, .int (i32 0)), (0, .ref (obo B v0)), (1, .ref 12), (2, .int (i32 (j 2)))] rfl (fun _ => rfl) ?_
    refine P_lv (b := [(0, .ref (obo B v0)), (1, .ref 12), (2, .int (i32 (j 2))), (3, .int (i32 0)), (4, .int (i32 0)), (5, .int (i32 0)), (6, .int (i32 0))]) rfl rfl ⟨rfl, rfl, rfl, rfl, rfl, trivial⟩ ?_
    refine P_bnd ?_
    refine P_whl (fun bb Q2 H1 H2 s9 j9 hs9 => dh_op_leave_50 B w c N D v0 q0 m hm bb Q2 H1 H2 s9 j9 hs9) bb (fun e28 j q29 => ?_) (0, 0) (jk [(2, j 2)]) ⟨(l32 0 rfl), (l32 0 rfl)⟩
    have q30 := q29
    show PP bb w D pm_178 (122, [(0, .ref (obo B v0)), (1, .ref 12), (2, .int (i32 (j 2))), (3, .int (i32 e28)), (4, .int (i32 (j 4))), (5, .int (i32 (j 5))), (6, .int (i32 (j 6)))], [], (khp (mO m [] []) c, N), 0, 0) (QS _ (kfl_op_leave_122 v0 e28 m))
    exact dg_op_leave_122 B w c N D bb v0 e28 q0 q30 m hm (jk [(2, j 2), (4, j 4), (5, j 5), (6, j 6)])
def kf_op_leave (v0 : Int) (v2 : Int) (m : mR) : Option (Int × mR) :=
  if (m.2 91) v0 = 0 then
    if (m.2 98) v0 = 0 then
      if cmp64 ((m.2 101) (65536 * v0 + 220)) 0 = 0 then
        kfl_op_leave_37 v0 (mO m [] [(99, upI (m.2 99) v0 v2)])
      else
        kfl_op_leave_37 v0 (mO m [] [(98, upI (m.2 98) v0 1), (99, upI (m.2 99) v0 v2)])
    else
      kfl_op_leave_37 v0 (mO m [] [(99, upI (m.2 99) v0 v2)])
  else
    kfl_op_leave_37 v0 (mO m [] [(99, upI (m.2 99) v0 v2)])
theorem D_op_leave (B : oB) (w : wX) (m : mR) (c : Nat → Option am_C) (N D : Nat) (hm : KCo B m) (v0 : Int) (v2 : Int) (q0 : OKo B v0) (q2 : R32 v2) : PC w D 178 [.ref (obo B v0), .ref 12, .int (i32 v2)] (khp m c, N) (QS (FO0 B c N) (kf_op_leave v0 v2 m)) := by
  refine Pc_of (fun D bb => ?_) D
  unfold kf_op_leave
  show PP bb w D pm_178 (0, [(0, .ref (obo B v0)), (1, .ref 12), (2, .int (i32 v2))], [], (khp (mO m [] []) c, N), 0, 0) _
  refine P_ld 1 (.ref (obo B v0)) rfl (fun _ => rfl) ?_
  refine P_ld 2 (.int (i32 v2)) rfl (fun _ => rfl) ?_
  refine PK_poi (a' := [(99, upI (m.2 99) v0 v2)]) 5 99 (m.2 99) rfl rfl rfl (OKr_o hm rfl rfl q0) (OWu_o hm rfl rfl) (obr_o hm rfl) rfl rfl rfl ?_
  refine P_ld 6 (.ref (obo B v0)) rfl (fun _ => rfl) ?_
  refine PK_goi 9 91 (m.2 91) rfl rfl (OKr_o hm rfl rfl q0) (obr_o hm rfl) rfl rfl ?_
  refine P_ifE 37 12 rfl rfl rfl (kE_i (KCn_a hm.1 91) rfl _) rfl (fun h31 => ?_) (fun h31 => ?_)
  · skip
    refine P_ld 13 (.ref (obo B v0)) rfl (fun _ => rfl) ?_
    refine PK_goi 16 98 (m.2 98) rfl rfl (OKr_o hm rfl rfl q0) (obr_o hm rfl) rfl rfl ?_
    refine P_ifE 37 19 rfl rfl rfl (kE_i (KCn_a hm.1 98) rfl _) rfl (fun h32 => ?_) (fun h32 => ?_)
    · skip
      refine P_ld 20 (.ref (obo B v0)) rfl (fun _ => rfl) ?_
      refine PK_gor 23 rfl rfl (OKr_o hm rfl rfl q0) (obr_o hm rfl) rfl ?_
      refine P_ld 26 (.int (i32 220)) rfl (fun _ => rfl) ?_
      refine PK_lalo2 27 1 (m.2 101) rfl rfl rfl hm rfl rfl q0 (l32 220 rfl) rfl ?_
      refine P_ld 28 (.long (i64 0)) rfl (fun _ => rfl) ?_
      refine P_op 29 (cmp64 ((m.2 101) (65536 * v0 + 220)) 0) _ rfl (fun _ => rfl) (o_cmp (kE_l (KCn_a hm.1 101) rfl _) (l64 0 rfl)) ?_
      refine P_ifF 37 32 rfl rfl rfl cmp64_r rfl (fun h33 => ?_) (fun h33 => ?_)
      · skip
        exact dg_op_leave_37 B w c N D bb v0 q0 (mO m [] [(99, upI (m.2 99) v0 v2)]) (KCo_mO hm rfl rfl (KC6 hm rfl) trivial ⟨(kE_ui (KCn_a hm.1 99) rfl q2), trivial⟩) (jk [(2, v2)])
      · skip
        refine P_ld 33 (.ref (obo B v0)) rfl (fun _ => rfl) ?_
        refine P_ld 34 (.int (i32 1)) rfl (fun _ => rfl) ?_
        refine PK_poi (a' := [(98, upI (m.2 98) v0 1), (99, upI (m.2 99) v0 v2)]) 37 98 (m.2 98) rfl rfl rfl (OKr_o hm rfl rfl q0) (OWu_o hm rfl rfl) (obr_o hm rfl) rfl rfl rfl ?_
        exact dg_op_leave_37 B w c N D bb v0 q0 (mO m [] [(98, upI (m.2 98) v0 1), (99, upI (m.2 99) v0 v2)]) (KCo_mO hm rfl rfl (KC6 hm rfl) trivial ⟨(kE_ui (KCn_a hm.1 98) rfl (l32 1 rfl)), (kE_ui (KCn_a hm.1 99) rfl q2), trivial⟩) (jk [(2, v2)])
    · skip
      exact dg_op_leave_37 B w c N D bb v0 q0 (mO m [] [(99, upI (m.2 99) v0 v2)]) (KCo_mO hm rfl rfl (KC6 hm rfl) trivial ⟨(kE_ui (KCn_a hm.1 99) rfl q2), trivial⟩) (jk [(2, v2)])
  · skip
    exact dg_op_leave_37 B w c N D bb v0 q0 (mO m [] [(99, upI (m.2 99) v0 v2)]) (KCo_mO hm rfl rfl (KC6 hm rfl) trivial ⟨(kE_ui (KCn_a hm.1 99) rfl q2), trivial⟩) (jk [(2, v2)])
def cs_pi_cycle_48 (B : oB) (s : Int × mR) : Prop := R32 s.1 ∧ KCo B s.2
def cx_pi_cycle_48 (B : oB) : (mR) → Prop := (fun (e : mR) => KCo B e)
def hd_pi_cycle_48 (B : oB) (c : Nat → Option am_C) (N : Nat) (v1 : Int) (s : Int × mR) (j : Nat → Int) : ag_St af_T := (48, [(0, .ref 185), (1, .int (i32 v1)), (2, obv B (j 2)), (3, .int (i32 s.1))], [], (khp s.2 c, N), 0, 0)
def ex_pi_cycle_48 (B : oB) (c : Nat → Option am_C) (N : Nat) (v1 : Int) : (mR) → (Nat → Int) → ag_St af_T := (fun (e : mR) (j : Nat → Int) => ((72, [(0, .ref 185), (1, .int (i32 v1)), (2, obv B (j 2)), (3, .int (i32 (j 3)))], [], (khp e c, N), 0, 0) : ag_St af_T))
def cs_pi_cycle_133 (B : oB) (s : Int × mR) : Prop := R32 s.1 ∧ KCo B s.2
def cx_pi_cycle_133 (B : oB) : (mR) → Prop := (fun (e : mR) => KCo B e)
def hd_pi_cycle_133 (B : oB) (c : Nat → Option am_C) (N : Nat) (v1 : Int) (s : Int × mR) (j : Nat → Int) : ag_St af_T := (133, [(0, .ref 185), (1, .int (i32 v1)), (2, obv B (j 2)), (3, obv B (j 3)), (4, .int (i32 s.1)), (5, obv B (j 5))], [], (khp s.2 c, N), 0, 0)
def ex_pi_cycle_133 (B : oB) (c : Nat → Option am_C) (N : Nat) (v1 : Int) : (mR) → (Nat → Int) → ag_St af_T := (fun (e : mR) (j : Nat → Int) => ((174, [(0, .ref 185), (1, .int (i32 (j 1))), (2, obv B (j 2)), (3, obv B (j 3)), (4, .int (i32 (j 4))), (5, obv B (j 5))], [], (khp e c, N), 0, 0) : ag_St af_T))
def kfl_pi_cycle_174 (m : mR) : Option (Int × mR) :=
  some (0, (mO m [(235, cut ((m.1 235) + 1))] []))
theorem dg_pi_cycle_174 (B : oB) (w : wX) (c : Nat → Option am_C) (N D : Nat) (bb : Nat) (m : mR) (hm : KCo B m) (j : Nat → Int) : PP bb w D pm_177 (174, [(0, .ref 185), (1, .int (i32 (j 1))), (2, obv B (j 2)), (3, obv B (j 3)), (4, .int (i32 (j 4))), (5, obv B (j 5))], [], (khp m c, N), 0, 0) (QS (FO0 B c N) (kfl_pi_cycle_174 m)) := by
  unfold kfl_pi_cycle_174
  show PP bb w D pm_177 (174, [(0, .ref 185), (1, .int (i32 (j 1))), (2, obv B (j 2)), (3, obv B (j 3)), (4, .int (i32 (j 4))), (5, obv B (j 5))], [], (khp (mO m [] []) c, N), 0, 0) _
  refine P_ld 175 (.ref 185) rfl (fun _ => rfl) ?_
  refine P_ld 176 (.ref 185) rfl (fun _ => rfl) ?_
  refine PK_gf 179 (.int (i32 (m.1 235))) rfl rfl kd_185 rfl rfl rfl ?_
  refine P_ld 180 (.int (i32 1)) rfl (fun _ => rfl) ?_
  refine P_op 181 (cut ((m.1 235) + 1)) _ rfl (fun _ => rfl) o_add ?_
  refine PK_pf (l' := [(235, cut ((m.1 235) + 1))]) 184 (cut ((m.1 235) + 1)) rfl rfl kd_185 rfl rfl rfl rfl rfl rfl rfl ?_
  exact P_ro0 rfl rfl (KCo_mO hm rfl rfl (KC6 hm rfl) ⟨(kV_i rfl cut_r), trivial⟩ trivial)
def kfl_pi_cycle_168 (v1 : Int) (v4 : Int) (m : mR) : Option (Sum (Int × mR) (mR)) :=
  some (.inl (cut (v4 + 1), m))
theorem dg_pi_cycle_168 (B : oB) (w : wX) (c : Nat → Option am_C) (N D : Nat) (bb : Nat) (v1 : Int) (v4 : Int) (q1 : R32 v1) (q4 : R32 v4) (m : mR) (hm : KCo B m) (j : Nat → Int) (Q2 : Sum (Int × mR) (mR) → ag_Re af_T → Prop) (H1 : ∀ s j, cs_pi_cycle_133 B s → PP bb w D pm_177 (hd_pi_cycle_133 B c N v1 s j) (Q2 (.inl s))) (H2 : ∀ x j, cx_pi_cycle_133 B x → PP bb w D pm_177 (ex_pi_cycle_133 B c N v1 x j) (Q2 (.inr x))) : PP bb w D pm_177 (168, [(0, .ref 185), (1, .int (i32 v1)), (2, obv B (j 2)), (3, obv B (j 3)), (4, .int (i32 v4)), (5, obv B (j 5))], [], (khp m c, N), 0, 0) (QS Q2 (kfl_pi_cycle_168 v1 v4 m)) := by
  unfold kfl_pi_cycle_168
  show PP bb w D pm_177 (168, [(0, .ref 185), (1, .int (i32 v1)), (2, obv B (j 2)), (3, obv B (j 3)), (4, .int (i32 v4)), (5, obv B (j 5))], [], (khp (mO m [] []) c, N), 0, 0) _
  refine P_inc 171 [(4, .int (i32 (cut (v4 + 1)))), (0, .ref 185), (1, .int (i32 v1)), (2, obv B (j 2)), (3, obv B (j 3)), (5, obv B (j 5))] rfl rfl (by decide) rfl (by first | rfl | (unfold obv; (repeat' split) <;> rfl)) ?_
  refine P_goto 133 rfl (fun _ => rfl) ?_
  refine P_some ?_
  refine P_lv (b := [(0, .ref 185), (1, .int (i32 v1)), (2, obv B (j 2)), (3, obv B (j 3)), (4, .int (i32 (cut (v4 + 1)))), (5, obv B (j 5))]) rfl rfl ⟨rfl, rfl, rfl, rfl, rfl, rfl, trivial⟩ ?_
  exact H1 (cut (v4 + 1), m) (jk [(2, j 2), (3, j 3), (5, j 5)]) ⟨cut_r, hm⟩
def kfb_pi_cycle_133 (v1 : Int) (s : Int × mR) : Option (Sum (Int × mR) (mR)) :=
  if v1 < s.1 then
    some (.inr s.2)
  else
    if kopi (s.2.2 106) (s.2.2 107) s.1 < 0 then
      kfl_pi_cycle_168 v1 s.1 s.2
    else
      bnd (kf_op_work_b71 (kopi (s.2.2 106) (s.2.2 107) s.1) s.1 s.2) fun y7 =>
      kfl_pi_cycle_168 v1 s.1 y7.2
theorem dh_pi_cycle_133 (B : oB) (w : wX) (c : Nat → Option am_C) (N D : Nat) (v1 : Int) (q1 : R32 v1) (bb : Nat) (Q2 : Sum (Int × mR) (mR) → ag_Re af_T → Prop) (H1 : ∀ s j, cs_pi_cycle_133 B s → PP bb w D pm_177 (hd_pi_cycle_133 B c N v1 s j) (Q2 (.inl s))) (H2 : ∀ x j, cx_pi_cycle_133 B x → PP bb w D pm_177 (ex_pi_cycle_133 B c N v1 x j) (Q2 (.inr x))) (s : Int × mR) (j : Nat → Int) (hs : cs_pi_cycle_133 B s) : PP (bb + 1) w D pm_177 (hd_pi_cycle_133 B c N v1 s j) (QS Q2 (kfb_pi_cycle_133 v1 s)) := by
  obtain ⟨g4, gm⟩ := hs
  unfold kfb_pi_cycle_133
  show PP (bb + 1) w D pm_177 (133, [(0, .ref 185), (1, .int (i32 v1)), (2, obv B (j 2)), (3, obv B (j 3)), (4, .int (i32 s.1)), (5, obv B (j 5))], [], (khp (mO s.2 [] []) c, N), 0, 0) _
  refine P1_ld 135 (.int (i32 s.1)) rfl (fun _ => rfl) ?_
  refine P_ld 136 (.int (i32 v1)) rfl (fun _ => rfl) ?_
  refine P_icF 174 139 rfl rfl rfl g4 q1 rfl (fun h4 => ?_) (fun h4 => ?_)
  · skip
    refine P_some ?_
    exact H2 s.2 (jk [(1, v1), (2, j 2), (3, j 3), (4, s.1), (5, j 5)]) gm
  · skip
    refine P_ld 140 (.ref 185) rfl (fun _ => rfl) ?_
    refine PK_gf 143 (.ref 187) rfl rfl kd_185 rfl rfl rfl ?_
    refine P_ld 145 (.int (i32 s.1)) rfl (fun _ => rfl) ?_
    refine PK_aais2 146 .null (s.2.2 106) rfl gm rfl gm.2.2.2 rfl g4 rfl (fun t5 => ?_)
    refine P_sto 148 [(5, obv B (kopi (s.2.2 106) (s.2.2 107) s.1)), (0, .ref 185), (1, .int (i32 v1)), (2, obv B (j 2)), (3, obv B (j 3)), (4, .int (i32 s.1))] rfl (fun _ => by first | rfl | (unfold obv; (repeat' split) <;> rfl)) ?_
    refine P_ld 150 (obv B (kopi (s.2.2 106) (s.2.2 107) s.1)) rfl (fun _ => by first | rfl | (unfold obv; (repeat' split) <;> rfl)) ?_
    refine P_cs (fun h6 => ?_) (fun h6 => ?_)
    · skip
      rw [obv_n h6]
      refine P_pop 168 rfl (fun _ => rfl) ?_
      refine P_lv (b := [(0, .ref 185), (1, .int (i32 v1)), (2, obv B (j 2)), (3, obv B (j 3)), (4, .int (i32 s.1)), (5, obv B (-1))]) rfl rfl ⟨rfl, rfl, rfl, rfl, rfl, rfl, trivial⟩ ?_
      exact dg_pi_cycle_168 B w c N D bb v1 s.1 q1 g4 s.2 gm (jk [(2, j 2), (3, j 3), (5, (-1))]) Q2 H1 H2
    · skip
      rw [obv_t (Rno_n t5 h6)]
      refine P_pop 153 rfl (fun _ => rfl) ?_
      refine P_ld 155 (.ref (obo B (kopi (s.2.2 106) (s.2.2 107) s.1))) rfl (fun _ => rfl) ?_
      refine P_ld 156 (.ref 185) rfl (fun _ => rfl) ?_
      refine PK_gf 159 (.ref 12) rfl rfl kd_185 rfl rfl rfl ?_
      refine P_ld 161 (.int (i32 s.1)) rfl (fun _ => rfl) ?_
      refine P_ld 162 (.ref 185) rfl (fun _ => rfl) ?_
      refine PK_gf 165 (.ref 188) rfl rfl kd_185 rfl rfl rfl ?_
      refine P_co0 168 186 [.ref (obo B (kopi (s.2.2 106) (s.2.2 107) s.1)), .ref 12, .int (i32 s.1), .ref 188] [] rfl (inv_vt (args := [.ref 188, .int (i32 s.1), .ref 12]) (khp_oo gm rfl rfl (Rno_n t5 h6)) rfl rfl rfl) rfl (D_op_work_b71 B w s.2 c N D gm (kopi (s.2.2 106) (s.2.2 107) s.1) s.1 (Rno_n t5 h6) g4) (fun y7 n9 => ?_)
      refine P_lv (b := [(0, .ref 185), (1, .int (i32 v1)), (2, obv B (j 2)), (3, obv B (j 3)), (4, .int (i32 s.1)), (5, obv B (kopi (s.2.2 106) (s.2.2 107) s.1))]) rfl rfl ⟨(congrArg some (obv_t (Rno_n t5 h6))), rfl, rfl, rfl, rfl, rfl, trivial⟩ ?_
      exact dg_pi_cycle_168 B w c N D bb v1 s.1 q1 g4 y7.2 n9 (jk [(2, j 2), (3, j 3), (5, kopi (s.2.2 106) (s.2.2 107) s.1)]) Q2 H1 H2
def kfl_pi_cycle_130 (v1 : Int) (m : mR) : Option (Int × mR) :=
  bnd (whl (kfb_pi_cycle_133 v1) (0, m)) (fun e10 : mR =>
    kfl_pi_cycle_174 e10)
theorem dg_pi_cycle_130 (B : oB) (w : wX) (c : Nat → Option am_C) (N D : Nat) (bb : Nat) (v1 : Int) (q1 : R32 v1) (m : mR) (hm : KCo B m) (j : Nat → Int) : PP bb w D pm_177 (130, [(0, .ref 185), (1, .int (i32 v1)), (2, obv B (j 2)), (3, obv B (j 3))], [], (khp m c, N), 0, 0) (QS (FO0 B c N) (kfl_pi_cycle_130 v1 m)) := by
  unfold kfl_pi_cycle_130
  show PP bb w D pm_177 (130, [(0, .ref 185), (1, .int (i32 v1)), (2, obv B (j 2)), (3, obv B (j 3))], [], (khp (mO m [] []) c, N), 0, 0) _
  refine P_ld 131 (.int (i32 0)) rfl (fun _ => rfl) ?_
  refine P_sto 133 [(4, .int (i32 0)), (0, .ref 185), (1, .int (i32 v1)), (2, obv B (j 2)), (3, obv B (j 3))] rfl (fun _ => by first | rfl | (unfold obv; (repeat' split) <;> rfl)) ?_
  refine P_lv (b := [(0, .ref 185), (1, .int (i32 v1)), (2, obv B (j 2)), (3, obv B (j 3)), (4, .int (i32 0)), (5, obv B 0)]) rfl rfl ⟨rfl, rfl, rfl, rfl, rfl, trivial⟩ ?_
  refine P_bnd ?_
  refine P_whl (fun bb Q2 H1 H2 s9 j9 hs9 => dh_pi_cycle_133 B w c N D v1 q1 bb Q2 H1 H2 s9 j9 hs9) bb (fun e10 j q11 => ?_) (0, m) (jk [(2, j 2), (3, j 3)]) ⟨(l32 0 rfl), hm⟩
  have q12 := q11
  show PP bb w D pm_177 (174, [(0, .ref 185), (1, .int (i32 (j 1))), (2, obv B (j 2)), (3, obv B (j 3)), (4, .int (i32 (j 4))), (5, obv B (j 5))], [], (khp (mO e10 [] []) c, N), 0, 0) (QS _ (kfl_pi_cycle_174 e10))
  exact dg_pi_cycle_174 B w c N D bb e10 q12 (jk [(1, j 1), (2, j 2), (3, j 3), (4, j 4), (5, j 5)])
def kfl_pi_cycle_100 (v1 : Int) (u0 : Int) (m : mR) : Option (Int × mR) :=
  if u0 < 0 then
    kfl_pi_cycle_130 v1 (mO m [] [(106, upI (m.2 106) 0 u0)])
  else
    bnd (kf_op_enter u0 (mO m [] [(106, upI (m.2 106) 0 u0)])) fun y14 =>
    kfl_pi_cycle_130 v1 (mO y14.2 [(233, cut ((y14.2.1 233) + 1))] [])
theorem dg_pi_cycle_100 (B : oB) (w : wX) (c : Nat → Option am_C) (N D : Nat) (bb : Nat) (v1 : Int) (u0 : Int) (q1 : R32 v1) (r0 : Rno B u0) (m : mR) (hm : KCo B m) (j : Nat → Int) : PP bb w D pm_177 (100, [(0, .ref 185), (1, .int (i32 v1)), (2, obv B (j 2)), (3, .int (i32 (j 3)))], [obv B u0], (khp m c, N), 0, 0) (QS (FO0 B c N) (kfl_pi_cycle_100 v1 u0 m)) := by
  unfold kfl_pi_cycle_100
  show PP bb w D pm_177 (100, [(0, .ref 185), (1, .int (i32 v1)), (2, obv B (j 2)), (3, .int (i32 (j 3)))], [obv B u0], (khp (mO m [] []) c, N), 0, 0) _
  refine P_sto 101 [(3, obv B u0), (0, .ref 185), (1, .int (i32 v1)), (2, obv B (j 2))] rfl (fun _ => by first | rfl | (unfold obv; (repeat' split) <;> rfl)) ?_
  refine P_ld 102 (.ref 185) rfl (fun _ => rfl) ?_
  refine PK_gf 105 (.ref 187) rfl rfl kd_185 rfl rfl rfl ?_
  refine P_ld 106 (.int (i32 0)) rfl (fun _ => rfl) ?_
  refine P_ld 107 (obv B u0) rfl (fun _ => by first | rfl | (unfold obv; (repeat' split) <;> rfl)) ?_
  refine PK_aasv (a' := [(106, upI (m.2 106) 0 u0)]) 108 (m.2 106) rfl rfl (l32 0 rfl) hm rfl rfl hm.1 r0 rfl rfl ?_
  refine P_ld 109 (obv B u0) rfl (fun _ => by first | rfl | (unfold obv; (repeat' split) <;> rfl)) ?_
  refine P_cs (fun h13 => ?_) (fun h13 => ?_)
  · skip
    rw [obv_n h13]
    refine P_pop 130 rfl (fun _ => rfl) ?_
    refine P_lv (b := [(0, .ref 185), (1, .int (i32 v1)), (2, obv B (j 2)), (3, obv B (-1))]) rfl rfl ⟨rfl, rfl, rfl, rfl, trivial⟩ ?_
    exact dg_pi_cycle_130 B w c N D bb v1 q1 (mO m [] [(106, upI (m.2 106) 0 u0)]) (KCo_mO hm rfl rfl (KC6e rfl (up6 hm.2.2.2 (Rno_l r0))) trivial ⟨(kE_ui (KCn_a hm.1 106) rfl (Rno_r r0)), trivial⟩) (jk [(2, j 2), (3, (-1))])
  · skip
    rw [obv_t (Rno_n r0 h13)]
    refine P_pop 112 rfl (fun _ => rfl) ?_
    refine P_ld 113 (.ref (obo B u0)) rfl (fun _ => rfl) ?_
    refine P_ld 114 (.ref 185) rfl (fun _ => rfl) ?_
    refine PK_gf 117 (.ref 12) rfl rfl kd_185 rfl rfl rfl ?_
    refine P_co0 120 180 [.ref (obo B u0), .ref 12] [] rfl (inv_vt (args := [.ref 12]) (khp_oo hm rfl rfl (Rno_n r0 h13)) rfl rfl rfl) rfl (D_op_enter B w (mO m [] [(106, upI (m.2 106) 0 u0)]) c N D (KCo_mO hm rfl rfl (KC6e rfl (up6 hm.2.2.2 (Rno_l r0))) trivial ⟨(kE_ui (KCn_a hm.1 106) rfl (Rno_r r0)), trivial⟩) u0 (Rno_n r0 h13)) (fun y14 n16 => ?_)
    refine P_ld 121 (.ref 185) rfl (fun _ => rfl) ?_
    refine P_ld 122 (.ref 185) rfl (fun _ => rfl) ?_
    refine PK_gf 125 (.int (i32 (y14.2.1 233))) rfl rfl kd_185 rfl rfl rfl ?_
    refine P_ld 126 (.int (i32 1)) rfl (fun _ => rfl) ?_
    refine P_op 127 (cut ((y14.2.1 233) + 1)) _ rfl (fun _ => rfl) o_add ?_
    refine PK_pf (l' := [(233, cut ((y14.2.1 233) + 1))]) 130 (cut ((y14.2.1 233) + 1)) rfl rfl kd_185 rfl rfl rfl rfl rfl rfl rfl ?_
    refine P_lv (b := [(0, .ref 185), (1, .int (i32 v1)), (2, obv B (j 2)), (3, obv B u0)]) rfl rfl ⟨(congrArg some (obv_t (Rno_n r0 h13))), rfl, rfl, rfl, trivial⟩ ?_
    exact dg_pi_cycle_130 B w c N D bb v1 q1 (mO y14.2 [(233, cut ((y14.2.1 233) + 1))] []) (KCo_mO n16 rfl rfl (KC6 n16 rfl) ⟨(kV_i rfl cut_r), trivial⟩ trivial) (jk [(2, j 2), (3, u0)])
def kfl_pi_cycle_72 (v1 : Int) (m : mR) : Option (Int × mR) :=
  if m.1 232 ≤ m.1 233 then
    kfl_pi_cycle_100 v1 (-1) m
  else
    kfl_pi_cycle_100 v1 (kopn (m.2 107) ((m.1 233).tmod 128)) m
theorem dg_pi_cycle_72 (B : oB) (w : wX) (c : Nat → Option am_C) (N D : Nat) (bb : Nat) (v1 : Int) (q1 : R32 v1) (m : mR) (hm : KCo B m) (j : Nat → Int) : PP bb w D pm_177 (72, [(0, .ref 185), (1, .int (i32 v1)), (2, obv B (j 2)), (3, .int (i32 (j 3)))], [], (khp m c, N), 0, 0) (QS (FO0 B c N) (kfl_pi_cycle_72 v1 m)) := by
  unfold kfl_pi_cycle_72
  show PP bb w D pm_177 (72, [(0, .ref 185), (1, .int (i32 v1)), (2, obv B (j 2)), (3, .int (i32 (j 3)))], [], (khp (mO m [] []) c, N), 0, 0) _
  refine P_ld 73 (.ref 185) rfl (fun _ => rfl) ?_
  refine PK_gf 76 (.int (i32 (m.1 233))) rfl rfl kd_185 rfl rfl rfl ?_
  refine P_ld 77 (.ref 185) rfl (fun _ => rfl) ?_
  refine PK_gf 80 (.int (i32 (m.1 232))) rfl rfl kd_185 rfl rfl rfl ?_
  refine P_icF 99 83 rfl rfl rfl (KCn_i hm.1 233 rfl) (KCn_i hm.1 232 rfl) rfl (fun h17 => ?_) (fun h17 => ?_)
  · skip
    refine P_ld 100 .null rfl (fun _ => rfl) ?_
    exact dg_pi_cycle_100 B w c N D bb v1 (-1) q1 rno_1 m hm (jk [(2, j 2), (3, j 3)])
  · skip
    refine P_ld 84 (.ref 185) rfl (fun _ => rfl) ?_
    refine PK_gf 87 (.ref 186) rfl rfl kd_185 rfl rfl rfl ?_
    refine P_ld 88 (.ref 185) rfl (fun _ => rfl) ?_
    refine PK_gf 91 (.int (i32 (m.1 233))) rfl rfl kd_185 rfl rfl rfl ?_
    refine P_ld 94 (.int (i32 128)) rfl (fun _ => rfl) ?_
    refine P_rem 95 rfl rfl (KCn_i hm.1 233 rfl) (by decide) (by decide) ?_
    refine PK_aaop2 96 .null rfl hm rfl (tmod_r (KCn_i hm.1 233 rfl) (by decide) (by decide)) rfl (fun t18 => ?_)
    refine P_goto 100 rfl (fun _ => rfl) ?_
    exact dg_pi_cycle_100 B w c N D bb v1 (kopn (m.2 107) ((m.1 233).tmod 128)) q1 t18 m hm (jk [(2, j 2), (3, j 3)])
def kfb_pi_cycle_48 (v1 : Int) (s : Int × mR) : Option (Sum (Int × mR) (mR)) :=
  if s.1 ≤ 0 then
    some (.inr s.2)
  else
    some (.inl (cut (s.1 + (-1)), (mO s.2 [] [(106, upI (s.2.2 106) s.1 (kopi (s.2.2 106) (s.2.2 107) (cut (s.1 - 1))))])))
theorem dh_pi_cycle_48 (B : oB) (w : wX) (c : Nat → Option am_C) (N D : Nat) (v1 : Int) (q1 : R32 v1) (bb : Nat) (Q2 : Sum (Int × mR) (mR) → ag_Re af_T → Prop) (H1 : ∀ s j, cs_pi_cycle_48 B s → PP bb w D pm_177 (hd_pi_cycle_48 B c N v1 s j) (Q2 (.inl s))) (H2 : ∀ x j, cx_pi_cycle_48 B x → PP bb w D pm_177 (ex_pi_cycle_48 B c N v1 x j) (Q2 (.inr x))) (s : Int × mR) (j : Nat → Int) (hs : cs_pi_cycle_48 B s) : PP (bb + 1) w D pm_177 (hd_pi_cycle_48 B c N v1 s j) (QS Q2 (kfb_pi_cycle_48 v1 s)) := by
  obtain ⟨g3, gm⟩ := hs
  unfold kfb_pi_cycle_48
  show PP (bb + 1) w D pm_177 (48, [(0, .ref 185), (1, .int (i32 v1)), (2, obv B (j 2)), (3, .int (i32 s.1))], [], (khp (mO s.2 [] []) c, N), 0, 0) _
  refine P1_ld 49 (.int (i32 s.1)) rfl (fun _ => rfl) ?_
  refine P_ifF 72 52 rfl rfl rfl g3 rfl (fun h20 => ?_) (fun h20 => ?_)
  · skip
    refine P_some ?_
    exact H2 s.2 (jk [(2, j 2), (3, s.1)]) gm
  · skip
    refine P_ld 53 (.ref 185) rfl (fun _ => rfl) ?_
    refine PK_gf 56 (.ref 187) rfl rfl kd_185 rfl rfl rfl ?_
    refine P_ld 57 (.int (i32 s.1)) rfl (fun _ => rfl) ?_
    refine P_ld 58 (.ref 185) rfl (fun _ => rfl) ?_
    refine PK_gf 61 (.ref 187) rfl rfl kd_185 rfl rfl rfl ?_
    refine P_ld 62 (.int (i32 s.1)) rfl (fun _ => rfl) ?_
    refine P_ld 63 (.int (i32 1)) rfl (fun _ => rfl) ?_
    refine P_op 64 (cut (s.1 - 1)) _ rfl (fun _ => rfl) o_sub ?_
    refine PK_aais2 65 .null (s.2.2 106) rfl gm rfl gm.2.2.2 rfl cut_r rfl (fun t21 => ?_)
    refine PK_aasv (a' := [(106, upI (s.2.2 106) s.1 (kopi (s.2.2 106) (s.2.2 107) (cut (s.1 - 1))))]) 66 (s.2.2 106) rfl rfl g3 gm rfl rfl gm.1 t21 rfl rfl ?_
    refine P_inc 69 [(3, .int (i32 (cut (s.1 + (-1))))), (0, .ref 185), (1, .int (i32 v1)), (2, obv B (j 2))] rfl rfl (by decide) rfl (by first | rfl | (unfold obv; (repeat' split) <;> rfl)) ?_
    refine P_goto 48 rfl (fun _ => rfl) ?_
    refine P_some ?_
    refine P_lv (b := [(0, .ref 185), (1, .int (i32 v1)), (2, obv B (j 2)), (3, .int (i32 (cut (s.1 + (-1)))))]) rfl rfl ⟨rfl, rfl, rfl, rfl, trivial⟩ ?_
    exact H1 (cut (s.1 + (-1)), (mO s.2 [] [(106, upI (s.2.2 106) s.1 (kopi (s.2.2 106) (s.2.2 107) (cut (s.1 - 1))))])) (jk [(2, j 2)]) ⟨cut_r, (KCo_mO gm rfl rfl (KC6e rfl (up6 gm.2.2.2 (Rno_l t21))) trivial ⟨(kE_ui (KCn_a gm.1 106) rfl (Rno_r t21)), trivial⟩)⟩
def kfl_pi_cycle_46 (v1 : Int) (m : mR) : Option (Int × mR) :=
  bnd (whl (kfb_pi_cycle_48 v1) (v1, m)) (fun e22 : mR =>
    kfl_pi_cycle_72 v1 e22)
theorem dg_pi_cycle_46 (B : oB) (w : wX) (c : Nat → Option am_C) (N D : Nat) (bb : Nat) (v1 : Int) (q1 : R32 v1) (m : mR) (hm : KCo B m) (j : Nat → Int) : PP bb w D pm_177 (46, [(0, .ref 185), (1, .int (i32 v1)), (2, obv B (j 2))], [], (khp m c, N), 0, 0) (QS (FO0 B c N) (kfl_pi_cycle_46 v1 m)) := by
  unfold kfl_pi_cycle_46
  show PP bb w D pm_177 (46, [(0, .ref 185), (1, .int (i32 v1)), (2, obv B (j 2))], [], (khp (mO m [] []) c, N), 0, 0) _
  refine P_ld 47 (.int (i32 v1)) rfl (fun _ => rfl) ?_
  refine P_sto 48 [(3, .int (i32 v1)), (0, .ref 185), (1, .int (i32 v1)), (2, obv B (j 2))] rfl (fun _ => by first | rfl | (unfold obv; (repeat' split) <;> rfl)) ?_
  refine P_lv (b := [(0, .ref 185), (1, .int (i32 v1)), (2, obv B (j 2)), (3, .int (i32 v1))]) rfl rfl ⟨rfl, rfl, rfl, rfl, trivial⟩ ?_
  refine P_bnd ?_
  refine P_whl (fun bb Q2 H1 H2 s9 j9 hs9 => dh_pi_cycle_48 B w c N D v1 q1 bb Q2 H1 H2 s9 j9 hs9) bb (fun e22 j q23 => ?_) (v1, m) (jk [(2, j 2)]) ⟨q1, hm⟩
  have q24 := q23
  show PP bb w D pm_177 (72, [(0, .ref 185), (1, .int (i32 v1)), (2, obv B (j 2)), (3, .int (i32 (j 3)))], [], (khp (mO e22 [] []) c, N), 0, 0) (QS _ (kfl_pi_cycle_72 v1 e22))
  exact dg_pi_cycle_72 B w c N D bb v1 q1 e22 q24 (jk [(2, j 2), (3, j 3)])
def kf_pi_cycle (m : mR) : Option (Int × mR) :=
  if kopi (m.2 106) (m.2 107) (cut ((m.1 226) - 1)) < 0 then
    kfl_pi_cycle_46 (cut ((m.1 226) - 1)) m
  else
    bnd (kf_op_leave (kopi (m.2 106) (m.2 107) (cut ((m.1 226) - 1))) (m.1 235) m) fun y27 =>
    kfl_pi_cycle_46 (cut ((m.1 226) - 1)) (mO y27.2 [(234, cut ((y27.2.1 234) + 1))] [])
theorem D_pi_cycle (B : oB) (w : wX) (m : mR) (c : Nat → Option am_C) (N D : Nat) (hm : KCo B m) : PC w D 177 [.ref 185] (khp m c, N) (QS (FO0 B c N) (kf_pi_cycle m)) := by
  refine Pc_of (fun D bb => ?_) D
  unfold kf_pi_cycle
  show PP bb w D pm_177 (0, [(0, .ref 185)], [], (khp (mO m [] []) c, N), 0, 0) _
  refine P_ld 1 (.ref 185) rfl (fun _ => rfl) ?_
  refine PK_gf 4 (.ref 12) rfl rfl kd_185 rfl rfl rfl ?_
  refine PK_gf 7 (.ref 59) rfl rfl kd_12 rfl rfl rfl ?_
  refine PK_gf 10 (.int (i32 (m.1 226))) rfl rfl kd_59 rfl rfl rfl ?_
  refine P_ld 11 (.int (i32 1)) rfl (fun _ => rfl) ?_
  refine P_op 12 (cut ((m.1 226) - 1)) _ rfl (fun _ => rfl) o_sub ?_
  refine P_sto 13 [(1, .int (i32 (cut ((m.1 226) - 1)))), (0, .ref 185)] rfl (fun _ => rfl) ?_
  refine P_ld 14 (.ref 185) rfl (fun _ => rfl) ?_
  refine PK_gf 17 (.ref 187) rfl rfl kd_185 rfl rfl rfl ?_
  refine P_ld 18 (.int (i32 (cut ((m.1 226) - 1)))) rfl (fun _ => rfl) ?_
  refine PK_aais2 19 .null (m.2 106) rfl hm rfl hm.2.2.2 rfl cut_r rfl (fun t25 => ?_)
  refine P_sto 20 [(2, obv B (kopi (m.2 106) (m.2 107) (cut ((m.1 226) - 1)))), (1, .int (i32 (cut ((m.1 226) - 1)))), (0, .ref 185)] rfl (fun _ => by first | rfl | (unfold obv; (repeat' split) <;> rfl)) ?_
  refine P_ld 21 (obv B (kopi (m.2 106) (m.2 107) (cut ((m.1 226) - 1)))) rfl (fun _ => by first | rfl | (unfold obv; (repeat' split) <;> rfl)) ?_
  refine P_cs (fun h26 => ?_) (fun h26 => ?_)
  · skip
    rw [obv_n h26]
    refine P_pop 46 rfl (fun _ => rfl) ?_
    refine P_lv (b := [(0, .ref 185), (1, .int (i32 (cut ((m.1 226) - 1)))), (2, obv B (-1))]) rfl rfl ⟨rfl, rfl, rfl, trivial⟩ ?_
    exact dg_pi_cycle_46 B w c N D bb (cut ((m.1 226) - 1)) cut_r m hm (jk [(2, (-1))])
  · skip
    rw [obv_t (Rno_n t25 h26)]
    refine P_pop 24 rfl (fun _ => rfl) ?_
    refine P_ld 25 (.ref (obo B (kopi (m.2 106) (m.2 107) (cut ((m.1 226) - 1))))) rfl (fun _ => rfl) ?_
    refine P_ld 26 (.ref 185) rfl (fun _ => rfl) ?_
    refine PK_gf 29 (.ref 12) rfl rfl kd_185 rfl rfl rfl ?_
    refine P_ld 30 (.ref 185) rfl (fun _ => rfl) ?_
    refine PK_gf 33 (.int (i32 (m.1 235))) rfl rfl kd_185 rfl rfl rfl ?_
    refine P_co0 36 178 [.ref (obo B (kopi (m.2 106) (m.2 107) (cut ((m.1 226) - 1)))), .ref 12, .int (i32 (m.1 235))] [] rfl (inv_vt (args := [.int (i32 (m.1 235)), .ref 12]) (khp_oo hm rfl rfl (Rno_n t25 h26)) rfl rfl rfl) rfl (D_op_leave B w m c N D hm (kopi (m.2 106) (m.2 107) (cut ((m.1 226) - 1))) (m.1 235) (Rno_n t25 h26) (KCn_i hm.1 235 rfl)) (fun y27 n29 => ?_)
    refine P_ld 37 (.ref 185) rfl (fun _ => rfl) ?_
    refine P_ld 38 (.ref 185) rfl (fun _ => rfl) ?_
    refine PK_gf 41 (.int (i32 (y27.2.1 234))) rfl rfl kd_185 rfl rfl rfl ?_
    refine P_ld 42 (.int (i32 1)) rfl (fun _ => rfl) ?_
    refine P_op 43 (cut ((y27.2.1 234) + 1)) _ rfl (fun _ => rfl) o_add ?_
    refine PK_pf (l' := [(234, cut ((y27.2.1 234) + 1))]) 46 (cut ((y27.2.1 234) + 1)) rfl rfl kd_185 rfl rfl rfl rfl rfl rfl rfl ?_
    refine P_lv (b := [(0, .ref 185), (1, .int (i32 (cut ((m.1 226) - 1)))), (2, obv B (kopi (m.2 106) (m.2 107) (cut ((m.1 226) - 1))))]) rfl rfl ⟨(congrArg some (obv_t (Rno_n t25 h26))), rfl, rfl, trivial⟩ ?_
    exact dg_pi_cycle_46 B w c N D bb (cut ((m.1 226) - 1)) cut_r (mO y27.2 [(234, cut ((y27.2.1 234) + 1))] []) (KCo_mO n29 rfl rfl (KC6 n29 rfl) ⟨(kV_i rfl cut_r), trivial⟩ trivial) (jk [(2, kopi (m.2 106) (m.2 107) (cut ((m.1 226) - 1)))])
def cs_pw_run_49 (B : oB) (s : Int × mR) : Prop := R32 s.1 ∧ KCo B s.2
def cx_pw_run_49 (B : oB) : (mR) → Prop := (fun (e : mR) => KCo B e)
def hd_pw_run_49 (B : oB) (c : Nat → Option am_C) (N : Nat) (v1 : Int) (v2 : Int) (s : Int × mR) (j : Nat → Int) : ag_St af_T := (49, [(0, .ref 0), (1, .int (i32 v1)), (2, .int (i32 v2)), (3, .int (i32 s.1))], [], (khp s.2 c, N), 0, 0)
def ex_pw_run_49 (B : oB) (c : Nat → Option am_C) (N : Nat) (v1 : Int) (v2 : Int) : (mR) → (Nat → Int) → ag_St af_T := (fun (e : mR) (j : Nat → Int) => ((67, [(0, .ref 0), (1, .int (i32 (j 1))), (2, .int (i32 v2)), (3, .int (i32 (j 3)))], [], (khp e c, N), 0, 0) : ag_St af_T))
def kfl_pw_run_67 (v2 : Int) (m : mR) : Option (Int × Int × mR) :=
  some (0, cut ((m.1 234) - v2), m)
theorem dg_pw_run_67 (B : oB) (w : wX) (c : Nat → Option am_C) (N D : Nat) (bb : Nat) (v2 : Int) (q2 : R32 v2) (m : mR) (hm : KCo B m) (j : Nat → Int) : PP bb w D pm_176 (67, [(0, .ref 0), (1, .int (i32 (j 1))), (2, .int (i32 v2)), (3, .int (i32 (j 3)))], [], (khp m c, N), 0, 0) (QS (FX1 c N) (kfl_pw_run_67 v2 m)) := by
  unfold kfl_pw_run_67
  show PP bb w D pm_176 (67, [(0, .ref 0), (1, .int (i32 (j 1))), (2, .int (i32 v2)), (3, .int (i32 (j 3)))], [], (khp (mO m [] []) c, N), 0, 0) _
  refine P_ld 68 (.ref 0) rfl (fun _ => rfl) ?_
  refine PK_gf 71 (.ref 185) rfl rfl kd_0 rfl rfl rfl ?_
  refine PK_gf 74 (.int (i32 (m.1 234))) rfl rfl kd_185 rfl rfl rfl ?_
  refine P_ld 75 (.int (i32 v2)) rfl (fun _ => rfl) ?_
  refine P_op 76 (cut ((m.1 234) - v2)) _ rfl (fun _ => rfl) o_sub ?_
  exact P_rx1 rfl cut_r hm.1
def kfb_pw_run_49 (v1 : Int) (v2 : Int) (s : Int × mR) : Option (Sum (Int × mR) (mR)) :=
  if v1 ≤ s.1 then
    some (.inr s.2)
  else
    bnd (kf_pi_cycle s.2) fun y4 =>
    some (.inl (cut (s.1 + 1), y4.2))
theorem dh_pw_run_49 (B : oB) (w : wX) (c : Nat → Option am_C) (N D : Nat) (v1 : Int) (v2 : Int) (q1 : R32 v1) (q2 : R32 v2) (bb : Nat) (Q2 : Sum (Int × mR) (mR) → ag_Re af_T → Prop) (H1 : ∀ s j, cs_pw_run_49 B s → PP bb w D pm_176 (hd_pw_run_49 B c N v1 v2 s j) (Q2 (.inl s))) (H2 : ∀ x j, cx_pw_run_49 B x → PP bb w D pm_176 (ex_pw_run_49 B c N v1 v2 x j) (Q2 (.inr x))) (s : Int × mR) (j : Nat → Int) (hs : cs_pw_run_49 B s) : PP (bb + 1) w D pm_176 (hd_pw_run_49 B c N v1 v2 s j) (QS Q2 (kfb_pw_run_49 v1 v2 s)) := by
  obtain ⟨g3, gm⟩ := hs
  unfold kfb_pw_run_49
  show PP (bb + 1) w D pm_176 (49, [(0, .ref 0), (1, .int (i32 v1)), (2, .int (i32 v2)), (3, .int (i32 s.1))], [], (khp (mO s.2 [] []) c, N), 0, 0) _
  refine P1_ld 50 (.int (i32 s.1)) rfl (fun _ => rfl) ?_
  refine P_ld 51 (.int (i32 v1)) rfl (fun _ => rfl) ?_
  refine P_icF 67 54 rfl rfl rfl g3 q1 rfl (fun h3 => ?_) (fun h3 => ?_)
  · skip
    refine P_some ?_
    exact H2 s.2 (jk [(1, v1), (3, s.1)]) gm
  · skip
    refine P_ld 55 (.ref 0) rfl (fun _ => rfl) ?_
    refine PK_gf 58 (.ref 185) rfl rfl kd_0 rfl rfl rfl ?_
    refine P_co0 61 177 [.ref 185] [] rfl (fun _ => rfl) rfl (D_pi_cycle B w s.2 c N D gm) (fun y4 n6 => ?_)
    refine P_inc 64 [(3, .int (i32 (cut (s.1 + 1)))), (0, .ref 0), (1, .int (i32 v1)), (2, .int (i32 v2))] rfl rfl (by decide) rfl rfl ?_
    refine P_goto 49 rfl (fun _ => rfl) ?_
    refine P_some ?_
    refine P_lv (b := [(0, .ref 0), (1, .int (i32 v1)), (2, .int (i32 v2)), (3, .int (i32 (cut (s.1 + 1))))]) rfl rfl ⟨rfl, rfl, rfl, rfl, trivial⟩ ?_
    exact H1 (cut (s.1 + 1), y4.2) (jk []) ⟨cut_r, n6⟩
def kfl_pw_run_28 (m : mR) : Option (Int × Int × mR) :=
  some (1, 0, m)
theorem dg_pw_run_28 (B : oB) (w : wX) (c : Nat → Option am_C) (N D : Nat) (bb : Nat) (m : mR) (hm : KCo B m) (j : Nat → Int) : PP bb w D pm_176 (28, [(0, .ref 0), (1, .int (i32 (j 1)))], [], (khp m c, N), 0, 0) (QS (FX1 c N) (kfl_pw_run_28 m)) := by
  unfold kfl_pw_run_28
  show PP bb w D pm_176 (28, [(0, .ref 0), (1, .int (i32 (j 1)))], [], (khp (mO m [] []) c, N), 0, 0) _
  exact P_thr rfl ⟨_, rfl, hm.1, Or.inr ⟨0, rfl, rfl⟩⟩
def kf_pw_run (v1 : Int) (m : mR) : Option (Int × Int × mR) :=
  bnd (kf_pw_isLaid m) fun y7 =>
  if y7 = 0 then
    some (2, 0, m)
  else
    if v1 < 0 then
      kfl_pw_run_28 m
    else
      if v1 ≤ 100 then
        bnd (whl (kfb_pw_run_49 v1 (m.1 234)) (0, m)) (fun e13 : mR =>
          kfl_pw_run_67 (m.1 234) e13)
      else
        kfl_pw_run_28 m
theorem D_pw_run (B : oB) (w : wX) (m : mR) (c : Nat → Option am_C) (N D : Nat) (hm : KCo B m) (v1 : Int) (q1 : R32 v1) : PC w D 176 [.ref 0, .int (i32 v1)] (khp m c, N) (QS (FX1 c N) (kf_pw_run v1 m)) := by
  refine Pc_of (fun D bb => ?_) D
  unfold kf_pw_run
  show PP bb w D pm_176 (0, [(0, .ref 0), (1, .int (i32 v1))], [], (khp (mO m [] []) c, N), 0, 0) _
  refine P_ld 1 (.ref 0) rfl (fun _ => rfl) ?_
  refine P_cp1 4 33 [.ref 0] [] rfl (fun _ => rfl) rfl (D_pw_isLaid w m c N D hm.1) (fun y7 h8 => ?_)
  refine P_ifE 18 7 rfl rfl rfl h8 rfl (fun h10 => ?_) (fun h10 => ?_)
  · skip
    exact P_thr rfl ⟨_, rfl, hm.1, Or.inr ⟨1, rfl, rfl⟩⟩
  · skip
    refine P_ld 19 (.int (i32 v1)) rfl (fun _ => rfl) ?_
    refine P_ifF 28 22 rfl rfl rfl q1 rfl (fun h11 => ?_) (fun h11 => ?_)
    · skip
      exact dg_pw_run_28 B w c N D bb m hm (jk [(1, v1)])
    · skip
      refine P_ld 23 (.int (i32 v1)) rfl (fun _ => rfl) ?_
      refine P_ld 25 (.int (i32 100)) rfl (fun _ => rfl) ?_
      refine P_icF 39 28 rfl rfl rfl q1 (l32 100 rfl) rfl (fun h12 => ?_) (fun h12 => ?_)
      · skip
        refine P_ld 40 (.ref 0) rfl (fun _ => rfl) ?_
        refine PK_gf 43 (.ref 185) rfl rfl kd_0 rfl rfl rfl ?_
        refine PK_gf 46 (.int (i32 (m.1 234))) rfl rfl kd_185 rfl rfl rfl ?_
        refine P_sto 47 [(2, .int (i32 (m.1 234))), (0, .ref 0), (1, .int (i32 v1))] rfl (fun _ => rfl) ?_
        refine P_ld 48 (.int (i32 0)) rfl (fun _ => rfl) ?_
        refine P_sto 49 [(3, .int (i32 0)), (2, .int (i32 (m.1 234))), (0, .ref 0), (1, .int (i32 v1))] rfl (fun _ => rfl) ?_
        refine P_lv (b := [(0, .ref 0), (1, .int (i32 v1)), (2, .int (i32 (m.1 234))), (3, .int (i32 0))]) rfl rfl ⟨rfl, rfl, rfl, rfl, trivial⟩ ?_
        refine P_bnd ?_
        refine P_whl (fun bb Q2 H1 H2 s9 j9 hs9 => dh_pw_run_49 B w c N D v1 (m.1 234) q1 (KCn_i hm.1 234 rfl) bb Q2 H1 H2 s9 j9 hs9) bb (fun e13 j q14 => ?_) (0, m) (jk []) ⟨(l32 0 rfl), hm⟩
        have q15 := q14
        show PP bb w D pm_176 (67, [(0, .ref 0), (1, .int (i32 (j 1))), (2, .int (i32 (m.1 234))), (3, .int (i32 (j 3)))], [], (khp (mO e13 [] []) c, N), 0, 0) (QS _ (kfl_pw_run_67 (m.1 234) e13))
        exact dg_pw_run_67 B w c N D bb (m.1 234) (KCn_i hm.1 234 rfl) e13 q15 (jk [(1, j 1), (3, j 3)])
      · skip
        exact dg_pw_run_28 B w c N D bb m hm (jk [(1, v1)])
def kfl_pw_word_60 (m : mR) : Option (Int × Int × mR) :=
  some (0, 0, m)
theorem dg_pw_word_60 (B : oB) (w : wX) (c : Nat → Option am_C) (N D : Nat) (bb : Nat) (m : mR) (hm : KCo B m) (j : Nat → Int) : PP bb w D pm_203 (60, [(0, .ref 0), (1, .int (i32 (j 1))), (2, .int (i32 (j 2)))], [], (khp m c, N), 0, 0) (QS (FX2 c N) (kfl_pw_word_60 m)) := by
  unfold kfl_pw_word_60
  show PP bb w D pm_203 (60, [(0, .ref 0), (1, .int (i32 (j 1))), (2, .int (i32 (j 2)))], [], (khp (mO m [] []) c, N), 0, 0) _
  refine P_ld 61 (.long (i64 0)) rfl (fun _ => rfl) ?_
  exact P_rx2 rfl rfl (l64 0 rfl) hm.1
def kf_pw_word (v1 : Int) (v2 : Int) (m : mR) : Option (Int × Int × mR) :=
  bnd (kf_pi_inStages m) fun y1 =>
  if y1 ≤ 0 then
    bnd (kf_pw_isLaid m) fun y5 =>
    if y5 = 0 then
      kfl_pw_word_60 m
    else
      if v1 < 0 then
        kfl_pw_word_60 m
      else
        if m.1 217 ≤ v1 then
          kfl_pw_word_60 m
        else
          if v2 < 0 then
            kfl_pw_word_60 m
          else
            if v2 < (m.2 16) v1 then
              some (0, (m.2 71) (cut ((cut (v1 * 64)) + v2)), m)
            else
              kfl_pw_word_60 m
  else
    some (2, 0, m)
theorem D_pw_word (B : oB) (w : wX) (m : mR) (c : Nat → Option am_C) (N D : Nat) (hm : KCo B m) (v1 : Int) (v2 : Int) (q1 : R32 v1) (q2 : R32 v2) : PC w D 203 [.ref 0, .int (i32 v1), .int (i32 v2)] (khp m c, N) (QS (FX2 c N) (kf_pw_word v1 v2 m)) := by
  refine Pc_of (fun D bb => ?_) D
  unfold kf_pw_word
  show PP bb w D pm_203 (0, [(0, .ref 0), (1, .int (i32 v1)), (2, .int (i32 v2))], [], (khp (mO m [] []) c, N), 0, 0) _
  refine P_ld 1 (.ref 0) rfl (fun _ => rfl) ?_
  refine PK_gf 4 (.ref 185) rfl rfl kd_0 rfl rfl rfl ?_
  refine P_cp1 7 41 [.ref 185] [] rfl (fun _ => rfl) rfl (D_pi_inStages w m c N D hm.1) (fun y1 h2 => ?_)
  refine P_ifF 21 10 rfl rfl rfl h2 rfl (fun h4 => ?_) (fun h4 => ?_)
  · skip
    refine P_ld 22 (.ref 0) rfl (fun _ => rfl) ?_
    refine P_cp1 25 33 [.ref 0] [] rfl (fun _ => rfl) rfl (D_pw_isLaid w m c N D hm.1) (fun y5 h6 => ?_)
    refine P_ifF 60 28 rfl rfl rfl h6 rfl (fun h8 => ?_) (fun h8 => ?_)
    · skip
      exact dg_pw_word_60 B w c N D bb m hm (jk [(1, v1), (2, v2)])
    · skip
      refine P_ld 29 (.int (i32 v1)) rfl (fun _ => rfl) ?_
      refine P_ifF 60 32 rfl rfl rfl q1 rfl (fun h9 => ?_) (fun h9 => ?_)
      · skip
        exact dg_pw_word_60 B w c N D bb m hm (jk [(1, v1), (2, v2)])
      · skip
        refine P_ld 33 (.int (i32 v1)) rfl (fun _ => rfl) ?_
        refine P_ld 34 (.ref 0) rfl (fun _ => rfl) ?_
        refine PK_gf 37 (.ref 12) rfl rfl kd_0 rfl rfl rfl ?_
        refine PK_gf 40 (.int (i32 (m.1 217))) rfl rfl kd_12 rfl rfl rfl ?_
        refine P_icF 60 43 rfl rfl rfl q1 (KCn_i hm.1 217 rfl) rfl (fun h10 => ?_) (fun h10 => ?_)
        · skip
          exact dg_pw_word_60 B w c N D bb m hm (jk [(1, v1), (2, v2)])
        · skip
          refine P_ld 44 (.int (i32 v2)) rfl (fun _ => rfl) ?_
          refine P_ifF 60 47 rfl rfl rfl q2 rfl (fun h11 => ?_) (fun h11 => ?_)
          · skip
            exact dg_pw_word_60 B w c N D bb m hm (jk [(1, v1), (2, v2)])
          · skip
            refine P_ld 48 (.int (i32 v2)) rfl (fun _ => rfl) ?_
            refine P_ld 49 (.ref 0) rfl (fun _ => rfl) ?_
            refine PK_gf 52 (.ref 12) rfl rfl kd_0 rfl rfl rfl ?_
            refine PK_gf 55 (.ref 19) rfl rfl kd_12 rfl rfl rfl ?_
            refine P_ld 56 (.int (i32 v1)) rfl (fun _ => rfl) ?_
            refine PK_iald2 57 16 (m.2 16) rfl rfl rfl q1 rfl ?_
            refine P_icF 62 60 rfl rfl rfl q2 (kE_i (KCn_a hm.1 16) rfl _) rfl (fun h12 => ?_) (fun h12 => ?_)
            · skip
              refine P_ld 63 (.ref 0) rfl (fun _ => rfl) ?_
              refine PK_gf 66 (.ref 185) rfl rfl kd_0 rfl rfl rfl ?_
              refine PK_gf 69 (.ref 188) rfl rfl kd_185 rfl rfl rfl ?_
              refine P_ld 70 (.int (i32 v1)) rfl (fun _ => rfl) ?_
              refine P_ld 72 (.int (i32 64)) rfl (fun _ => rfl) ?_
              refine P_op 73 (cut (v1 * 64)) _ rfl (fun _ => rfl) o_mul ?_
              refine P_ld 74 (.int (i32 v2)) rfl (fun _ => rfl) ?_
              refine P_op 75 (cut ((cut (v1 * 64)) + v2)) _ rfl (fun _ => rfl) o_add ?_
              refine PK_lald2 76 71 (m.2 71) rfl rfl rfl cut_r rfl ?_
              exact P_rx2 rfl rfl (kE_l (KCn_a hm.1 71) rfl _) hm.1
            · skip
              exact dg_pw_word_60 B w c N D bb m hm (jk [(1, v1), (2, v2)])
  · skip
    exact P_thr rfl ⟨_, rfl, hm.1, Or.inr ⟨1, rfl, rfl⟩⟩
def kfl_pw_isTable_27 (u0 : Int) (m : mR) : Option Int :=
  some u0
theorem dg_pw_isTable_27 (B : oB) (w : wX) (c : Nat → Option am_C) (N D : Nat) (bb : Nat) (u0 : Int) (r0 : R32 u0) (m : mR) (hm : KCo B m) (j : Nat → Int) : PP bb w D pm_172 (27, [(0, .ref 0), (1, .int (i32 (j 1)))], [.int (i32 u0)], (khp m c, N), 0, 0) (QS (FP1 (khp m c, N)) (kfl_pw_isTable_27 u0 m)) := by
  unfold kfl_pw_isTable_27
  show PP bb w D pm_172 (27, [(0, .ref 0), (1, .int (i32 (j 1)))], [.int (i32 u0)], (khp (mO m [] []) c, N), 0, 0) _
  exact P_rp1 rfl r0
def kf_pw_isTable (v1 : Int) (m : mR) : Option Int :=
  if m.1 201 = 0 then
    kfl_pw_isTable_27 0 m
  else
    if v1 < 0 then
      kfl_pw_isTable_27 0 m
    else
      if m.1 219 ≤ v1 then
        kfl_pw_isTable_27 0 m
      else
        kfl_pw_isTable_27 1 m
theorem D_pw_isTable (B : oB) (w : wX) (m : mR) (c : Nat → Option am_C) (N D : Nat) (hm : KCo B m) (v1 : Int) (q1 : R32 v1) : PC w D 172 [.ref 0, .int (i32 v1)] (khp m c, N) (QS (FP1 (khp m c, N)) (kf_pw_isTable v1 m)) := by
  refine Pc_of (fun D bb => ?_) D
  unfold kf_pw_isTable
  show PP bb w D pm_172 (0, [(0, .ref 0), (1, .int (i32 v1))], [], (khp (mO m [] []) c, N), 0, 0) _
  refine P_ld 1 (.ref 0) rfl (fun _ => rfl) ?_
  refine PK_gf 4 (.int (i32 (m.1 201))) rfl rfl kd_0 rfl rfl rfl ?_
  refine P_ifF 26 7 rfl rfl rfl (KCn_i hm.1 201 rfl) rfl (fun h1 => ?_) (fun h1 => ?_)
  · skip
    refine P_ld 27 (.int (i32 0)) rfl (fun _ => rfl) ?_
    exact dg_pw_isTable_27 B w c N D bb 0 (l32 0 rfl) m hm (jk [(1, v1)])
  · skip
    refine P_ld 8 (.int (i32 v1)) rfl (fun _ => rfl) ?_
    refine P_ifF 26 11 rfl rfl rfl q1 rfl (fun h2 => ?_) (fun h2 => ?_)
    · skip
      refine P_ld 27 (.int (i32 0)) rfl (fun _ => rfl) ?_
      exact dg_pw_isTable_27 B w c N D bb 0 (l32 0 rfl) m hm (jk [(1, v1)])
    · skip
      refine P_ld 12 (.int (i32 v1)) rfl (fun _ => rfl) ?_
      refine P_ld 13 (.ref 0) rfl (fun _ => rfl) ?_
      refine PK_gf 16 (.ref 12) rfl rfl kd_0 rfl rfl rfl ?_
      refine PK_gf 19 (.int (i32 (m.1 219))) rfl rfl kd_12 rfl rfl rfl ?_
      refine P_icF 26 22 rfl rfl rfl q1 (KCn_i hm.1 219 rfl) rfl (fun h3 => ?_) (fun h3 => ?_)
      · skip
        refine P_ld 27 (.int (i32 0)) rfl (fun _ => rfl) ?_
        exact dg_pw_isTable_27 B w c N D bb 0 (l32 0 rfl) m hm (jk [(1, v1)])
      · skip
        refine P_ld 23 (.int (i32 1)) rfl (fun _ => rfl) ?_
        refine P_goto 27 rfl (fun _ => rfl) ?_
        exact dg_pw_isTable_27 B w c N D bb 1 (l32 1 rfl) m hm (jk [(1, v1)])
def kfl_pw_entries_69 (u0 : Int) (m : mR) : Option (Int × Int × mR) :=
  some (0, u0, m)
theorem dg_pw_entries_69 (B : oB) (w : wX) (c : Nat → Option am_C) (N D : Nat) (bb : Nat) (u0 : Int) (r0 : R32 u0) (m : mR) (hm : KCo B m) (j : Nat → Int) : PP bb w D pm_205 (69, [(0, .ref 0), (1, .int (i32 (j 1))), (2, .int (i32 (j 2))), (3, .ref (tbr (j 3)))], [.int (i32 u0)], (khp m c, N), 0, 0) (QS (FX1 c N) (kfl_pw_entries_69 u0 m)) := by
  unfold kfl_pw_entries_69
  show PP bb w D pm_205 (69, [(0, .ref 0), (1, .int (i32 (j 1))), (2, .int (i32 (j 2))), (3, .ref (tbr (j 3)))], [.int (i32 u0)], (khp (mO m [] []) c, N), 0, 0) _
  exact P_rx1 rfl r0 hm.1
def kf_pw_entries (v1 : Int) (v2 : Int) (m : mR) : Option (Int × Int × mR) :=
  bnd (kf_pi_inStages m) fun y1 =>
  if y1 ≤ 0 then
    bnd (kf_pw_isTable v1 m) fun y5 =>
    if y5 = 0 then
      some (0, (-1), m)
    else
      if v2 = 0 then
        kfl_pw_entries_69 ((m.2 78) v1) m
      else
        if v2 = 1 then
          bnd (kf_tb_above v1 ((m.2 78) v1) m) fun y12 =>
          kfl_pw_entries_69 y12.1 y12.2
        else
          kfl_pw_entries_69 (-1) m
  else
    some (2, 0, m)
theorem D_pw_entries (B : oB) (w : wX) (m : mR) (c : Nat → Option am_C) (N D : Nat) (hm : KCo B m) (v1 : Int) (v2 : Int) (q1 : R32 v1) (q2 : R32 v2) : PC w D 205 [.ref 0, .int (i32 v1), .int (i32 v2)] (khp m c, N) (QS (FX1 c N) (kf_pw_entries v1 v2 m)) := by
  refine Pc_of (fun D bb => ?_) D
  unfold kf_pw_entries
  show PP bb w D pm_205 (0, [(0, .ref 0), (1, .int (i32 v1)), (2, .int (i32 v2))], [], (khp (mO m [] []) c, N), 0, 0) _
  refine P_ld 1 (.ref 0) rfl (fun _ => rfl) ?_
  refine PK_gf 4 (.ref 185) rfl rfl kd_0 rfl rfl rfl ?_
  refine P_cp1 7 41 [.ref 185] [] rfl (fun _ => rfl) rfl (D_pi_inStages w m c N D hm.1) (fun y1 h2 => ?_)
  refine P_ifF 21 10 rfl rfl rfl h2 rfl (fun h4 => ?_) (fun h4 => ?_)
  · skip
    refine P_ld 22 (.ref 0) rfl (fun _ => rfl) ?_
    refine P_ld 23 (.int (i32 v1)) rfl (fun _ => rfl) ?_
    refine P_cp1 26 172 [.ref 0, .int (i32 v1)] [] rfl (fun _ => rfl) rfl (D_pw_isTable B w m c N D hm v1 q1) (fun y5 h6 => ?_)
    refine P_ifE 31 29 rfl rfl rfl h6 rfl (fun h8 => ?_) (fun h8 => ?_)
    · skip
      refine P_ld 30 (.int (i32 (-1))) rfl (fun _ => rfl) ?_
      exact P_rx1 rfl (l32 (-1) rfl) hm.1
    · skip
      refine P_ld 32 (.ref 0) rfl (fun _ => rfl) ?_
      refine PK_gf 35 (.ref 12) rfl rfl kd_0 rfl rfl rfl ?_
      refine PK_gf 38 (.ref 21) rfl rfl kd_12 rfl rfl rfl ?_
      refine P_ld 39 (.int (i32 v1)) rfl (fun _ => rfl) ?_
      refine PK_aatb2 40 rfl q1 rfl (fun t9 => ?_)
      refine P_sto 41 [(3, .ref (tbr v1)), (0, .ref 0), (1, .int (i32 v1)), (2, .int (i32 v2))] rfl (fun _ => rfl) ?_
      refine P_ld 42 (.int (i32 v2)) rfl (fun _ => rfl) ?_
      refine P_ifE 52 45 rfl rfl rfl q2 rfl (fun h10 => ?_) (fun h10 => ?_)
      · skip
        refine P_ld 46 (.ref (tbr v1)) rfl (fun _ => rfl) ?_
        refine PK_gfi 49 78 (m.2 78) rfl rfl t9.1 t9.2 rfl rfl ?_
        refine P_goto 69 rfl (fun _ => rfl) ?_
        refine P_lv (b := [(0, .ref 0), (1, .int (i32 v1)), (2, .int (i32 v2)), (3, .ref (tbr v1))]) rfl rfl ⟨rfl, rfl, rfl, rfl, trivial⟩ ?_
        exact dg_pw_entries_69 B w c N D bb ((m.2 78) v1) (kE_i (KCn_a hm.1 78) rfl _) m hm (jk [(1, v1), (2, v2), (3, v1)])
      · skip
        refine P_ld 53 (.int (i32 v2)) rfl (fun _ => rfl) ?_
        refine P_ld 54 (.int (i32 1)) rfl (fun _ => rfl) ?_
        refine P_icE 68 57 rfl rfl rfl q2 (l32 1 rfl) rfl (fun h11 => ?_) (fun h11 => ?_)
        · skip
          refine P_ld 58 (.ref (tbr v1)) rfl (fun _ => rfl) ?_
          refine P_ld 59 (.ref (tbr v1)) rfl (fun _ => rfl) ?_
          refine PK_gfi 62 78 (m.2 78) rfl rfl t9.1 t9.2 rfl rfl ?_
          refine P_co1 65 192 [.ref (tbr v1), .int (i32 ((m.2 78) v1))] [] rfl (inv_vt (args := [.int (i32 ((m.2 78) v1))]) (khp_t0 _ t9.1 t9.2) rfl rfl rfl) rfl (D_tb_above B w m c N D hm v1 ((m.2 78) v1) t9 (kE_i (KCn_a hm.1 78) rfl _)) (fun y12 h13 n14 => ?_)
          refine P_goto 69 rfl (fun _ => rfl) ?_
          refine P_lv (b := [(0, .ref 0), (1, .int (i32 v1)), (2, .int (i32 v2)), (3, .ref (tbr v1))]) rfl rfl ⟨rfl, rfl, rfl, rfl, trivial⟩ ?_
          exact dg_pw_entries_69 B w c N D bb y12.1 h13 y12.2 n14 (jk [(1, v1), (2, v2), (3, v1)])
        · skip
          refine P_ld 69 (.int (i32 (-1))) rfl (fun _ => rfl) ?_
          refine P_lv (b := [(0, .ref 0), (1, .int (i32 v1)), (2, .int (i32 v2)), (3, .ref (tbr v1))]) rfl rfl ⟨rfl, rfl, rfl, rfl, trivial⟩ ?_
          exact dg_pw_entries_69 B w c N D bb (-1) (l32 (-1) rfl) m hm (jk [(1, v1), (2, v2), (3, v1)])
  · skip
    exact P_thr rfl ⟨_, rfl, hm.1, Or.inr ⟨1, rfl, rfl⟩⟩
end X55DH
