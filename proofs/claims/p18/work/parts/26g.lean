noncomputable section X26G
def cs_goOn_162 (s : Int × mR) : Prop := R32 s.1 ∧ Cn s.2
def cx_goOn_162 : (mR) → Prop := (fun (e : mR) => Cn e)
def hd_goOn_162 (c : Nat → Option am_C) (N : Nat) (v1 : Int) (v2 : Int) (s : Int × mR) (j : Nat → Int) : ag_St af_T := (162, [(0, .ref 189), (1, .int (i32 v1)), (2, .int (i32 v2)), (3, .int (i32 s.1))], [], (mhp s.2 c, N), 0, 0)
def ex_goOn_162 (c : Nat → Option am_C) (N : Nat) (v1 : Int) (v2 : Int) : (mR) → (Nat → Int) → ag_St af_T := (fun (e : mR) (j : Nat → Int) => ((204, [(0, .ref 189), (1, .int (i32 v1)), (2, .int (i32 v2)), (3, .int (i32 (j 3)))], [], (mhp e c, N), 0, 0) : ag_St af_T))
def rfl_goOn_277 (m : mR) : Option (Int × mR) :=
  some (0, (mO m [(75, 0)] []))
theorem dg_goOn_277 (w : wX) (c : Nat → Option am_C) (N D : Nat) (bb : Nat) (m : mR) (hm : Cn m) (j : Nat → Int) : PP bb w D pm_257 (277, [(0, .ref 189), (1, .int (i32 (j 1))), (2, .int (i32 (j 2))), (3, .int (i32 (j 3)))], [], (mhp m c, N), 0, 0) (QS (FR0 c N) (rfl_goOn_277 m)) := by
  unfold rfl_goOn_277
  show PP bb w D pm_257 (277, [(0, .ref 189), (1, .int (i32 (j 1))), (2, .int (i32 (j 2))), (3, .int (i32 (j 3)))], [], (mhp (mO m [] []) c, N), 0, 0) _
  refine P_ld 278 (.ref 189) rfl (fun _ => rfl) ?_
  refine P_ld 279 (.int (i32 0)) rfl (fun _ => rfl) ?_
  refine P_pf (l' := [(75, 0)]) 282 0 rfl rfl rfl rfl rfl rfl ?_
  refine P_goto 290 rfl (fun _ => rfl) ?_
  exact P_re0 rfl rfl (Cn_mO hm ⟨(rV_i rfl (l32 0 rfl)), trivial⟩ trivial)
def rfl_goOn_204 (v1 : Int) (v2 : Int) (m : mR) : Option (Int × mR) :=
  if m.1 10 ≤ 0 then
    if v2 < 0 then
      bnd (rf_endOr v1 m) fun y4 =>
      some (0, y4.2)
    else
      bnd (rf_next (mO m [] [(80, upI (m.2 80) (cut ((cut (9 * v1)) + v2)) (m.1 7)), (81, upI (m.2 81) (cut ((cut (9 * v1)) + v2)) (m.1 69)), (82, upI (m.2 82) (cut ((cut (9 * v1)) + v2)) (m.1 70)), (83, upI (m.2 83) (cut ((cut (9 * v1)) + v2)) (nar1 (m.1 71))), (84, upI (m.2 84) (cut ((cut (9 * v1)) + v2)) (m.1 72))])) fun y7 =>
      rfl_goOn_277 y7.2
  else
    some (0, m)
theorem dg_goOn_204 (w : wX) (c : Nat → Option am_C) (N D : Nat) (bb : Nat) (v1 : Int) (v2 : Int) (q1 : R32 v1) (q2 : R32 v2) (m : mR) (hm : Cn m) (j : Nat → Int) : PP bb w D pm_257 (204, [(0, .ref 189), (1, .int (i32 v1)), (2, .int (i32 v2)), (3, .int (i32 (j 3)))], [], (mhp m c, N), 0, 0) (QS (FR0 c N) (rfl_goOn_204 v1 v2 m)) := by
  unfold rfl_goOn_204
  show PP bb w D pm_257 (204, [(0, .ref 189), (1, .int (i32 v1)), (2, .int (i32 v2)), (3, .int (i32 (j 3)))], [], (mhp (mO m [] []) c, N), 0, 0) _
  refine P_gf 208 (.int (i32 (m.1 10))) rfl rfl rfl rfl rfl rfl ?_
  refine P_ifF 212 211 rfl rfl rfl (Cn_i hm 10 rfl) rfl (fun h2 => ?_) (fun h2 => ?_)
  · skip
    refine P_ld 213 (.int (i32 v2)) rfl (fun _ => rfl) ?_
    refine P_ifF 285 216 rfl rfl rfl q2 rfl (fun h3 => ?_) (fun h3 => ?_)
    · skip
      refine P_ld 286 (.ref 189) rfl (fun _ => rfl) ?_
      refine P_ld 287 (.int (i32 v1)) rfl (fun _ => rfl) ?_
      refine P_ca0 290 263 [.ref 189, .int (i32 v1)] [] rfl (fun _ => rfl) rfl (D_endOr w m c N D hm v1 q1) (fun y4 n6 => ?_)
      exact P_re0 rfl rfl n6
    · skip
      refine P_ld 218 (.int (i32 9)) rfl (fun _ => rfl) ?_
      refine P_ld 219 (.int (i32 v1)) rfl (fun _ => rfl) ?_
      refine P_op 220 (cut (9 * v1)) _ rfl (fun _ => rfl) o_mul ?_
      refine P_ld 221 (.int (i32 v2)) rfl (fun _ => rfl) ?_
      refine P_op 222 (cut ((cut (9 * v1)) + v2)) _ rfl (fun _ => rfl) o_add ?_
      refine P_sto 223 [(3, .int (i32 (cut ((cut (9 * v1)) + v2)))), (0, .ref 189), (1, .int (i32 v1)), (2, .int (i32 v2))] rfl (fun _ => rfl) ?_
      refine P_gf 227 (.ref 242) rfl rfl rfl rfl rfl rfl ?_
      refine P_ld 228 (.int (i32 (cut ((cut (9 * v1)) + v2)))) rfl (fun _ => rfl) ?_
      refine P_gf 232 (.int (i32 (m.1 7))) rfl rfl rfl rfl rfl rfl ?_
      refine P_iast2 (a' := [(80, upI (m.2 80) (cut ((cut (9 * v1)) + v2)) (m.1 7))]) 233 80 (m.2 80) rfl rfl rfl cut_r rfl rfl ?_
      refine P_gf 237 (.ref 243) rfl rfl rfl rfl rfl rfl ?_
      refine P_ld 238 (.int (i32 (cut ((cut (9 * v1)) + v2)))) rfl (fun _ => rfl) ?_
      refine P_gf 242 (.int (i32 (m.1 69))) rfl rfl rfl rfl rfl rfl ?_
      refine P_iast2 (a' := [(80, upI (m.2 80) (cut ((cut (9 * v1)) + v2)) (m.1 7)), (81, upI (m.2 81) (cut ((cut (9 * v1)) + v2)) (m.1 69))]) 243 81 (m.2 81) rfl rfl rfl cut_r rfl rfl ?_
      refine P_gf 247 (.ref 244) rfl rfl rfl rfl rfl rfl ?_
      refine P_ld 248 (.int (i32 (cut ((cut (9 * v1)) + v2)))) rfl (fun _ => rfl) ?_
      refine P_gf 252 (.int (i32 (m.1 70))) rfl rfl rfl rfl rfl rfl ?_
      refine P_iast2 (a' := [(80, upI (m.2 80) (cut ((cut (9 * v1)) + v2)) (m.1 7)), (81, upI (m.2 81) (cut ((cut (9 * v1)) + v2)) (m.1 69)), (82, upI (m.2 82) (cut ((cut (9 * v1)) + v2)) (m.1 70))]) 253 82 (m.2 82) rfl rfl rfl cut_r rfl rfl ?_
      refine P_gf 257 (.ref 245) rfl rfl rfl rfl rfl rfl ?_
      refine P_ld 258 (.int (i32 (cut ((cut (9 * v1)) + v2)))) rfl (fun _ => rfl) ?_
      refine P_gf 262 (.int (i32 (m.1 71))) rfl rfl rfl rfl rfl rfl ?_
      refine P_bast2 (a' := [(80, upI (m.2 80) (cut ((cut (9 * v1)) + v2)) (m.1 7)), (81, upI (m.2 81) (cut ((cut (9 * v1)) + v2)) (m.1 69)), (82, upI (m.2 82) (cut ((cut (9 * v1)) + v2)) (m.1 70)), (83, upI (m.2 83) (cut ((cut (9 * v1)) + v2)) (nar1 (m.1 71)))]) 263 83 (m.2 83) rfl rfl rfl cut_r rfl rfl ?_
      refine P_gf 267 (.ref 246) rfl rfl rfl rfl rfl rfl ?_
      refine P_ld 268 (.int (i32 (cut ((cut (9 * v1)) + v2)))) rfl (fun _ => rfl) ?_
      refine P_gf 272 (.long (i64 (m.1 72))) rfl rfl rfl rfl rfl rfl ?_
      refine P_last2 (a' := [(80, upI (m.2 80) (cut ((cut (9 * v1)) + v2)) (m.1 7)), (81, upI (m.2 81) (cut ((cut (9 * v1)) + v2)) (m.1 69)), (82, upI (m.2 82) (cut ((cut (9 * v1)) + v2)) (m.1 70)), (83, upI (m.2 83) (cut ((cut (9 * v1)) + v2)) (nar1 (m.1 71))), (84, upI (m.2 84) (cut ((cut (9 * v1)) + v2)) (m.1 72))]) 273 84 (m.2 84) rfl rfl rfl cut_r rfl rfl ?_
      refine P_ld 274 (.ref 189) rfl (fun _ => rfl) ?_
      refine P_ca0 277 212 [.ref 189] [] rfl (fun _ => rfl) rfl (D_next w (mO m [] [(80, upI (m.2 80) (cut ((cut (9 * v1)) + v2)) (m.1 7)), (81, upI (m.2 81) (cut ((cut (9 * v1)) + v2)) (m.1 69)), (82, upI (m.2 82) (cut ((cut (9 * v1)) + v2)) (m.1 70)), (83, upI (m.2 83) (cut ((cut (9 * v1)) + v2)) (nar1 (m.1 71))), (84, upI (m.2 84) (cut ((cut (9 * v1)) + v2)) (m.1 72))]) c N D (Cn_mO hm trivial ⟨(rE_ui (Cn_a hm 80) rfl (Cn_i hm 7 rfl)), (rE_ui (Cn_a hm 81) rfl (Cn_i hm 69 rfl)), (rE_ui (Cn_a hm 82) rfl (Cn_i hm 70 rfl)), (rE_ui (Cn_a hm 83) rfl t32_r), (rE_ul (Cn_a hm 84) rfl (Cn_l hm 72 rfl)), trivial⟩)) (fun y7 n9 => ?_)
      refine P_lv (b := [(0, .ref 189), (1, .int (i32 v1)), (2, .int (i32 v2)), (3, .int (i32 (cut ((cut (9 * v1)) + v2))))]) rfl rfl ⟨rfl, rfl, rfl, rfl, trivial⟩ ?_
      exact dg_goOn_277 w c N D bb y7.2 n9 (jk [(1, v1), (2, v2), (3, cut ((cut (9 * v1)) + v2))])
  · skip
    exact P_re0 rfl rfl hm
def rfl_goOn_198 (v1 : Int) (v2 : Int) (v3 : Int) (m : mR) : Option (Sum (Int × mR) (mR)) :=
  some (.inl (cut (v3 + (-1)), m))
theorem dg_goOn_198 (w : wX) (c : Nat → Option am_C) (N D : Nat) (bb : Nat) (v1 : Int) (v2 : Int) (v3 : Int) (q1 : R32 v1) (q2 : R32 v2) (q3 : R32 v3) (m : mR) (hm : Cn m) (j : Nat → Int) (Q2 : Sum (Int × mR) (mR) → ag_Re af_T → Prop) (H1 : ∀ s j, cs_goOn_162 s → PP bb w D pm_257 (hd_goOn_162 c N v1 v2 s j) (Q2 (.inl s))) (H2 : ∀ x j, cx_goOn_162 x → PP bb w D pm_257 (ex_goOn_162 c N v1 v2 x j) (Q2 (.inr x))) : PP bb w D pm_257 (198, [(0, .ref 189), (1, .int (i32 v1)), (2, .int (i32 v2)), (3, .int (i32 v3))], [], (mhp m c, N), 0, 0) (QS Q2 (rfl_goOn_198 v1 v2 v3 m)) := by
  unfold rfl_goOn_198
  show PP bb w D pm_257 (198, [(0, .ref 189), (1, .int (i32 v1)), (2, .int (i32 v2)), (3, .int (i32 v3))], [], (mhp (mO m [] []) c, N), 0, 0) _
  refine P_inc 201 [(3, .int (i32 (cut (v3 + (-1))))), (0, .ref 189), (1, .int (i32 v1)), (2, .int (i32 v2))] rfl rfl (by decide) rfl rfl ?_
  refine P_goto 162 rfl (fun _ => rfl) ?_
  refine P_some ?_
  refine P_lv (b := [(0, .ref 189), (1, .int (i32 v1)), (2, .int (i32 v2)), (3, .int (i32 (cut (v3 + (-1)))))]) rfl rfl ⟨rfl, rfl, rfl, rfl, trivial⟩ ?_
  exact H1 (cut (v3 + (-1)), m) (jk []) ⟨cut_r, hm⟩
def rfb_goOn_162 (v1 : Int) (v2 : Int) (s : Int × mR) : Option (Sum (Int × mR) (mR)) :=
  if s.1 < 0 then
    some (.inr s.2)
  else
    if s.1 < v2 then
      some (.inr s.2)
    else
      if (0 : Int) ≤ (s.2.2 80) (cut ((cut (9 * v1)) + s.1)) then
        bnd (rf_join (cut ((cut (9 * v1)) + s.1)) s.2) fun y14 =>
        rfl_goOn_198 v1 v2 s.1 y14.2
      else
        rfl_goOn_198 v1 v2 s.1 s.2
theorem dh_goOn_162 (w : wX) (c : Nat → Option am_C) (N D : Nat) (v1 : Int) (v2 : Int) (q1 : R32 v1) (q2 : R32 v2) (bb : Nat) (Q2 : Sum (Int × mR) (mR) → ag_Re af_T → Prop) (H1 : ∀ s j, cs_goOn_162 s → PP bb w D pm_257 (hd_goOn_162 c N v1 v2 s j) (Q2 (.inl s))) (H2 : ∀ x j, cx_goOn_162 x → PP bb w D pm_257 (ex_goOn_162 c N v1 v2 x j) (Q2 (.inr x))) (s : Int × mR) (j : Nat → Int) (hs : cs_goOn_162 s) : PP (bb + 1) w D pm_257 (hd_goOn_162 c N v1 v2 s j) (QS Q2 (rfb_goOn_162 v1 v2 s)) := by
  obtain ⟨g3, gm⟩ := hs
  unfold rfb_goOn_162
  show PP (bb + 1) w D pm_257 (162, [(0, .ref 189), (1, .int (i32 v1)), (2, .int (i32 v2)), (3, .int (i32 s.1))], [], (mhp (mO s.2 [] []) c, N), 0, 0) _
  refine P1_ld 163 (.int (i32 s.1)) rfl (fun _ => rfl) ?_
  refine P_ifF 204 166 rfl rfl rfl g3 rfl (fun h11 => ?_) (fun h11 => ?_)
  · skip
    refine P_some ?_
    exact H2 s.2 (jk [(3, s.1)]) gm
  · skip
    refine P_ld 167 (.int (i32 s.1)) rfl (fun _ => rfl) ?_
    refine P_ld 168 (.int (i32 v2)) rfl (fun _ => rfl) ?_
    refine P_icF 204 171 rfl rfl rfl g3 q2 rfl (fun h12 => ?_) (fun h12 => ?_)
    · skip
      refine P_some ?_
      exact H2 s.2 (jk [(3, s.1)]) gm
    · skip
      refine P_gf 175 (.ref 242) rfl rfl rfl rfl rfl rfl ?_
      refine P_ld 177 (.int (i32 9)) rfl (fun _ => rfl) ?_
      refine P_ld 178 (.int (i32 v1)) rfl (fun _ => rfl) ?_
      refine P_op 179 (cut (9 * v1)) _ rfl (fun _ => rfl) o_mul ?_
      refine P_ld 180 (.int (i32 s.1)) rfl (fun _ => rfl) ?_
      refine P_op 181 (cut ((cut (9 * v1)) + s.1)) _ rfl (fun _ => rfl) o_add ?_
      refine P_iald2 182 80 (s.2.2 80) rfl rfl rfl cut_r rfl ?_
      refine P_ifF 188 185 rfl rfl rfl (rE_i (Cn_a gm 80) rfl _) rfl (fun h13 => ?_) (fun h13 => ?_)
      · skip
        refine P_ld 189 (.ref 189) rfl (fun _ => rfl) ?_
        refine P_ld 191 (.int (i32 9)) rfl (fun _ => rfl) ?_
        refine P_ld 192 (.int (i32 v1)) rfl (fun _ => rfl) ?_
        refine P_op 193 (cut (9 * v1)) _ rfl (fun _ => rfl) o_mul ?_
        refine P_ld 194 (.int (i32 s.1)) rfl (fun _ => rfl) ?_
        refine P_op 195 (cut ((cut (9 * v1)) + s.1)) _ rfl (fun _ => rfl) o_add ?_
        refine P_ca0 198 260 [.ref 189, .int (i32 (cut ((cut (9 * v1)) + s.1)))] [] rfl (fun _ => rfl) rfl (D_join w s.2 c N D gm (cut ((cut (9 * v1)) + s.1)) cut_r) (fun y14 n16 => ?_)
        exact dg_goOn_198 w c N D bb v1 v2 s.1 q1 q2 g3 y14.2 n16 (jk []) Q2 H1 H2
      · skip
        refine P_goto 198 rfl (fun _ => rfl) ?_
        exact dg_goOn_198 w c N D bb v1 v2 s.1 q1 q2 g3 s.2 gm (jk []) Q2 H1 H2
def rfl_goOn_159 (v1 : Int) (v2 : Int) (m : mR) : Option (Int × mR) :=
  bnd (whl (rfb_goOn_162 v1 v2) (8, m)) (fun e17 : mR =>
    rfl_goOn_204 v1 v2 e17)
theorem dg_goOn_159 (w : wX) (c : Nat → Option am_C) (N D : Nat) (bb : Nat) (v1 : Int) (v2 : Int) (q1 : R32 v1) (q2 : R32 v2) (m : mR) (hm : Cn m) (j : Nat → Int) : PP bb w D pm_257 (159, [(0, .ref 189), (1, .int (i32 v1)), (2, .int (i32 v2))], [], (mhp m c, N), 0, 0) (QS (FR0 c N) (rfl_goOn_159 v1 v2 m)) := by
  unfold rfl_goOn_159
  show PP bb w D pm_257 (159, [(0, .ref 189), (1, .int (i32 v1)), (2, .int (i32 v2))], [], (mhp (mO m [] []) c, N), 0, 0) _
  refine P_ld 161 (.int (i32 8)) rfl (fun _ => rfl) ?_
  refine P_sto 162 [(3, .int (i32 8)), (0, .ref 189), (1, .int (i32 v1)), (2, .int (i32 v2))] rfl (fun _ => rfl) ?_
  refine P_lv (b := [(0, .ref 189), (1, .int (i32 v1)), (2, .int (i32 v2)), (3, .int (i32 8))]) rfl rfl ⟨rfl, rfl, rfl, rfl, trivial⟩ ?_
  refine P_bnd ?_
  refine P_whl (fun bb Q2 H1 H2 s9 j9 hs9 => dh_goOn_162 w c N D v1 v2 q1 q2 bb Q2 H1 H2 s9 j9 hs9) bb (fun e17 j q18 => ?_) (8, m) (jk []) ⟨(l32 8 rfl), hm⟩
  have q19 := q18
  show PP bb w D pm_257 (204, [(0, .ref 189), (1, .int (i32 v1)), (2, .int (i32 v2)), (3, .int (i32 (j 3)))], [], (mhp (mO e17 [] []) c, N), 0, 0) (QS _ (rfl_goOn_204 v1 v2 e17))
  exact dg_goOn_204 w c N D bb v1 v2 q1 q2 e17 q19 (jk [(3, j 3)])
def rfl_goOn_123 (v2 : Int) (v3 : Int) (m : mR) : Option (Int × mR) :=
  bnd (rf_unit v3 v2 m) fun y20 =>
  some (0, y20.2)
theorem dg_goOn_123 (w : wX) (c : Nat → Option am_C) (N D : Nat) (bb : Nat) (v2 : Int) (v3 : Int) (q2 : R32 v2) (q3 : R32 v3) (m : mR) (hm : Cn m) (j : Nat → Int) : PP bb w D pm_257 (123, [(0, .ref 189), (1, .int (i32 (j 1))), (2, .int (i32 v2)), (3, .int (i32 v3))], [], (mhp m c, N), 0, 0) (QS (FR0 c N) (rfl_goOn_123 v2 v3 m)) := by
  unfold rfl_goOn_123
  show PP bb w D pm_257 (123, [(0, .ref 189), (1, .int (i32 (j 1))), (2, .int (i32 v2)), (3, .int (i32 v3))], [], (mhp (mO m [] []) c, N), 0, 0) _
  refine P_ld 124 (.ref 189) rfl (fun _ => rfl) ?_
  refine P_ld 125 (.int (i32 v3)) rfl (fun _ => rfl) ?_
  refine P_ld 126 (.int (i32 v2)) rfl (fun _ => rfl) ?_
  refine P_ca0 129 250 [.ref 189, .int (i32 v3), .int (i32 v2)] [] rfl (fun _ => rfl) rfl (D_unit w m c N D hm v3 v2 q3 q2) (fun y20 n22 => ?_)
  exact P_re0 rfl rfl n22
def rfl_goOn_117 (v2 : Int) (v3 : Int) (u1 : Int) (m : mR) : Option (Int × mR) :=
  bnd (rf_node u1 v3 0 0 m) fun y23 =>
  rfl_goOn_123 v2 v3 y23.2
theorem dg_goOn_117 (w : wX) (c : Nat → Option am_C) (N D : Nat) (bb : Nat) (v2 : Int) (v3 : Int) (u1 : Int) (q2 : R32 v2) (q3 : R32 v3) (r1 : R32 u1) (m : mR) (hm : Cn m) (j : Nat → Int) : PP bb w D pm_257 (117, [(0, .ref 189), (1, .int (i32 (j 1))), (2, .int (i32 v2)), (3, .int (i32 v3))], [.int (i32 u1), .ref 189], (mhp m c, N), 0, 0) (QS (FR0 c N) (rfl_goOn_117 v2 v3 u1 m)) := by
  unfold rfl_goOn_117
  show PP bb w D pm_257 (117, [(0, .ref 189), (1, .int (i32 (j 1))), (2, .int (i32 v2)), (3, .int (i32 v3))], [.int (i32 u1), .ref 189], (mhp (mO m [] []) c, N), 0, 0) _
  refine P_ld 118 (.int (i32 v3)) rfl (fun _ => rfl) ?_
  refine P_ld 119 (.int (i32 0)) rfl (fun _ => rfl) ?_
  refine P_ld 120 (.long (i64 0)) rfl (fun _ => rfl) ?_
  refine P_ca0 123 248 [.ref 189, .int (i32 u1), .int (i32 v3), .int (i32 0), .long (i64 0)] [] rfl (fun _ => rfl) rfl (D_node w m c N D hm u1 v3 0 0 r1 q3 (l32 0 rfl) (l64 0 rfl)) (fun y23 n25 => ?_)
  exact dg_goOn_123 w c N D bb v2 v3 q2 q3 y23.2 n25 (jk [(1, j 1)])
def rfl_goOn_73 (v1 : Int) (v2 : Int) (v3 : Int) (m : mR) : Option (Int × mR) :=
  if (m.2 78) v1 = 45 then
    rfl_goOn_117 v2 v3 408 (mO m [(73, cut ((m.1 73) - 1)), (74, cut ((m.1 74) - 1))] [])
  else
    rfl_goOn_117 v2 v3 ((m.2 78) v1) (mO m [(73, cut ((m.1 73) - 1)), (74, cut ((m.1 74) - 1))] [])
theorem dg_goOn_73 (w : wX) (c : Nat → Option am_C) (N D : Nat) (bb : Nat) (v1 : Int) (v2 : Int) (v3 : Int) (q1 : R32 v1) (q2 : R32 v2) (q3 : R32 v3) (m : mR) (hm : Cn m) (j : Nat → Int) : PP bb w D pm_257 (73, [(0, .ref 189), (1, .int (i32 v1)), (2, .int (i32 v2)), (3, .int (i32 v3))], [], (mhp m c, N), 0, 0) (QS (FR0 c N) (rfl_goOn_73 v1 v2 v3 m)) := by
  unfold rfl_goOn_73
  show PP bb w D pm_257 (73, [(0, .ref 189), (1, .int (i32 v1)), (2, .int (i32 v2)), (3, .int (i32 v3))], [], (mhp (mO m [] []) c, N), 0, 0) _
  refine P_ld 74 (.ref 189) rfl (fun _ => rfl) ?_
  refine P_ld 75 (.ref 189) rfl (fun _ => rfl) ?_
  refine P_gf1 78 (.int (i32 (m.1 73))) rfl rfl rfl rfl ?_
  refine P_ld 79 (.int (i32 1)) rfl (fun _ => rfl) ?_
  refine P_op 80 (cut ((m.1 73) - 1)) _ rfl (fun _ => rfl) o_sub ?_
  refine P_pf (l' := [(73, cut ((m.1 73) - 1))]) 83 (cut ((m.1 73) - 1)) rfl rfl rfl rfl rfl rfl ?_
  refine P_ld 84 (.ref 189) rfl (fun _ => rfl) ?_
  refine P_ld 85 (.ref 189) rfl (fun _ => rfl) ?_
  refine P_gf1 88 (.int (i32 (m.1 74))) rfl rfl rfl rfl ?_
  refine P_ld 89 (.int (i32 1)) rfl (fun _ => rfl) ?_
  refine P_op 90 (cut ((m.1 74) - 1)) _ rfl (fun _ => rfl) o_sub ?_
  refine P_pf (l' := [(73, cut ((m.1 73) - 1)), (74, cut ((m.1 74) - 1))]) 93 (cut ((m.1 74) - 1)) rfl rfl rfl rfl rfl rfl ?_
  refine P_ld 94 (.ref 189) rfl (fun _ => rfl) ?_
  refine P_gf 98 (.ref 240) rfl rfl rfl rfl rfl rfl ?_
  refine P_ld 99 (.int (i32 v1)) rfl (fun _ => rfl) ?_
  refine P_iald2 100 78 (m.2 78) rfl rfl rfl q1 rfl ?_
  refine P_ld 102 (.int (i32 45)) rfl (fun _ => rfl) ?_
  refine P_icE 111 105 rfl rfl rfl (rE_i (Cn_a hm 78) rfl _) (l32 45 rfl) rfl (fun h26 => ?_) (fun h26 => ?_)
  · skip
    refine P_ld 108 (.int (i32 408)) rfl (fun _ => rfl) ?_
    refine P_goto 117 rfl (fun _ => rfl) ?_
    exact dg_goOn_117 w c N D bb v2 v3 408 q2 q3 (l32 408 rfl) (mO m [(73, cut ((m.1 73) - 1)), (74, cut ((m.1 74) - 1))] []) (Cn_mO hm ⟨(rV_i rfl cut_r), (rV_i rfl cut_r), trivial⟩ trivial) (jk [(1, v1)])
  · skip
    refine P_gf 115 (.ref 240) rfl rfl rfl rfl rfl rfl ?_
    refine P_ld 116 (.int (i32 v1)) rfl (fun _ => rfl) ?_
    refine P_iald2 117 78 (m.2 78) rfl rfl rfl q1 rfl ?_
    exact dg_goOn_117 w c N D bb v2 v3 ((m.2 78) v1) q2 q3 (rE_i (Cn_a hm 78) rfl _) (mO m [(73, cut ((m.1 73) - 1)), (74, cut ((m.1 74) - 1))] []) (Cn_mO hm ⟨(rV_i rfl cut_r), (rV_i rfl cut_r), trivial⟩ trivial) (jk [(1, v1)])
def rfl_goOn_60 (v1 : Int) (v2 : Int) (v3 : Int) (m : mR) : Option (Int × mR) :=
  if (m.2 78) v1 = 33 then
    rfl_goOn_73 v1 v2 1 m
  else
    rfl_goOn_73 v1 v2 v3 m
theorem dg_goOn_60 (w : wX) (c : Nat → Option am_C) (N D : Nat) (bb : Nat) (v1 : Int) (v2 : Int) (v3 : Int) (q1 : R32 v1) (q2 : R32 v2) (q3 : R32 v3) (m : mR) (hm : Cn m) (j : Nat → Int) : PP bb w D pm_257 (60, [(0, .ref 189), (1, .int (i32 v1)), (2, .int (i32 v2)), (3, .int (i32 v3))], [], (mhp m c, N), 0, 0) (QS (FR0 c N) (rfl_goOn_60 v1 v2 v3 m)) := by
  unfold rfl_goOn_60
  show PP bb w D pm_257 (60, [(0, .ref 189), (1, .int (i32 v1)), (2, .int (i32 v2)), (3, .int (i32 v3))], [], (mhp (mO m [] []) c, N), 0, 0) _
  refine P_gf 64 (.ref 240) rfl rfl rfl rfl rfl rfl ?_
  refine P_ld 65 (.int (i32 v1)) rfl (fun _ => rfl) ?_
  refine P_iald2 66 78 (m.2 78) rfl rfl rfl q1 rfl ?_
  refine P_ld 68 (.int (i32 33)) rfl (fun _ => rfl) ?_
  refine P_icE 73 71 rfl rfl rfl (rE_i (Cn_a hm 78) rfl _) (l32 33 rfl) rfl (fun h27 => ?_) (fun h27 => ?_)
  · skip
    refine P_ld 72 (.int (i32 1)) rfl (fun _ => rfl) ?_
    refine P_sto 73 [(3, .int (i32 1)), (0, .ref 189), (1, .int (i32 v1)), (2, .int (i32 v2))] rfl (fun _ => rfl) ?_
    refine P_lv (b := [(0, .ref 189), (1, .int (i32 v1)), (2, .int (i32 v2)), (3, .int (i32 1))]) rfl rfl ⟨rfl, rfl, rfl, rfl, trivial⟩ ?_
    exact dg_goOn_73 w c N D bb v1 v2 1 q1 q2 (l32 1 rfl) m hm (jk [])
  · skip
    exact dg_goOn_73 w c N D bb v1 v2 v3 q1 q2 q3 m hm (jk [])
def rf_goOn (m : mR) : Option (Int × mR) :=
  if (m.2 76) (cut ((m.1 73) - 1)) = 1 then
    if (m.2 78) (cut ((m.1 73) - 1)) = 33 then
      bnd (rf_wantBit (m.1 69) (m.1 71) (m.1 72) (m.1 70) m) fun y34 =>
      rfl_goOn_60 (cut ((m.1 73) - 1)) ((m.2 77) (cut ((m.1 73) - 1))) (m.1 69) y34.2
    else
      rfl_goOn_60 (cut ((m.1 73) - 1)) ((m.2 77) (cut ((m.1 73) - 1))) (m.1 69) m
  else
    bnd (rf_level (m.1 7)) fun y29 =>
    if y29 = 2 then
      if (m.2 80) (cut ((cut (9 * (cut ((m.1 73) - 1)))) + 2)) < 0 then
        rfl_goOn_159 (cut ((m.1 73) - 1)) y29 m
      else
        rfl_goOn_159 (cut ((m.1 73) - 1)) (-1) m
    else
      rfl_goOn_159 (cut ((m.1 73) - 1)) y29 m
theorem D_goOn (w : wX) (m : mR) (c : Nat → Option am_C) (N D : Nat) (hm : Cn m) : PC w D 257 [.ref 189] (mhp m c, N) (QS (FR0 c N) (rf_goOn m)) := by
  refine Pc_of (fun D bb => ?_) D
  unfold rf_goOn
  show PP bb w D pm_257 (0, [(0, .ref 189)], [], (mhp (mO m [] []) c, N), 0, 0) _
  refine P_gf 4 (.int (i32 (m.1 73))) rfl rfl rfl rfl rfl rfl ?_
  refine P_ld 5 (.int (i32 1)) rfl (fun _ => rfl) ?_
  refine P_op 6 (cut ((m.1 73) - 1)) _ rfl (fun _ => rfl) o_sub ?_
  refine P_sto 7 [(1, .int (i32 (cut ((m.1 73) - 1)))), (0, .ref 189)] rfl (fun _ => rfl) ?_
  refine P_gf 11 (.ref 238) rfl rfl rfl rfl rfl rfl ?_
  refine P_ld 12 (.int (i32 (cut ((m.1 73) - 1)))) rfl (fun _ => rfl) ?_
  refine P_iald2 13 76 (m.2 76) rfl rfl rfl cut_r rfl ?_
  refine P_ld 14 (.int (i32 1)) rfl (fun _ => rfl) ?_
  refine P_icE 130 17 rfl rfl rfl (rE_i (Cn_a hm 76) rfl _) (l32 1 rfl) rfl (fun h28 => ?_) (fun h28 => ?_)
  · skip
    refine P_gf 21 (.ref 239) rfl rfl rfl rfl rfl rfl ?_
    refine P_ld 22 (.int (i32 (cut ((m.1 73) - 1)))) rfl (fun _ => rfl) ?_
    refine P_iald2 23 77 (m.2 77) rfl rfl rfl cut_r rfl ?_
    refine P_sto 24 [(2, .int (i32 ((m.2 77) (cut ((m.1 73) - 1))))), (1, .int (i32 (cut ((m.1 73) - 1)))), (0, .ref 189)] rfl (fun _ => rfl) ?_
    refine P_gf 28 (.int (i32 (m.1 69))) rfl rfl rfl rfl rfl rfl ?_
    refine P_sto 29 [(3, .int (i32 (m.1 69))), (2, .int (i32 ((m.2 77) (cut ((m.1 73) - 1))))), (1, .int (i32 (cut ((m.1 73) - 1)))), (0, .ref 189)] rfl (fun _ => rfl) ?_
    refine P_gf 33 (.ref 240) rfl rfl rfl rfl rfl rfl ?_
    refine P_ld 34 (.int (i32 (cut ((m.1 73) - 1)))) rfl (fun _ => rfl) ?_
    refine P_iald2 35 78 (m.2 78) rfl rfl rfl cut_r rfl ?_
    refine P_ld 37 (.int (i32 33)) rfl (fun _ => rfl) ?_
    refine P_icE 60 40 rfl rfl rfl (rE_i (Cn_a hm 78) rfl _) (l32 33 rfl) rfl (fun h33 => ?_) (fun h33 => ?_)
    · skip
      refine P_ld 41 (.ref 189) rfl (fun _ => rfl) ?_
      refine P_gf 45 (.int (i32 (m.1 69))) rfl rfl rfl rfl rfl rfl ?_
      refine P_gf 49 (.int (i32 (m.1 71))) rfl rfl rfl rfl rfl rfl ?_
      refine P_gf 53 (.long (i64 (m.1 72))) rfl rfl rfl rfl rfl rfl ?_
      refine P_gf 57 (.int (i32 (m.1 70))) rfl rfl rfl rfl rfl rfl ?_
      refine P_ca0 60 258 [.ref 189, .int (i32 (m.1 69)), .int (i32 (m.1 71)), .long (i64 (m.1 72)), .int (i32 (m.1 70))] [] rfl (fun _ => rfl) rfl (D_wantBit w m c N D hm (m.1 69) (m.1 71) (m.1 72) (m.1 70) (Cn_i hm 69 rfl) (Cn_i hm 71 rfl) (Cn_l hm 72 rfl) (Cn_i hm 70 rfl)) (fun y34 n36 => ?_)
      refine P_lv (b := [(0, .ref 189), (1, .int (i32 (cut ((m.1 73) - 1)))), (2, .int (i32 ((m.2 77) (cut ((m.1 73) - 1))))), (3, .int (i32 (m.1 69)))]) rfl rfl ⟨rfl, rfl, rfl, rfl, trivial⟩ ?_
      exact dg_goOn_60 w c N D bb (cut ((m.1 73) - 1)) ((m.2 77) (cut ((m.1 73) - 1))) (m.1 69) cut_r (rE_i (Cn_a hm 77) rfl _) (Cn_i hm 69 rfl) y34.2 n36 (jk [])
    · skip
      refine P_lv (b := [(0, .ref 189), (1, .int (i32 (cut ((m.1 73) - 1)))), (2, .int (i32 ((m.2 77) (cut ((m.1 73) - 1))))), (3, .int (i32 (m.1 69)))]) rfl rfl ⟨rfl, rfl, rfl, rfl, trivial⟩ ?_
      exact dg_goOn_60 w c N D bb (cut ((m.1 73) - 1)) ((m.2 77) (cut ((m.1 73) - 1))) (m.1 69) cut_r (rE_i (Cn_a hm 77) rfl _) (Cn_i hm 69 rfl) m hm (jk [])
  · skip
    refine P_gf 134 (.int (i32 (m.1 7))) rfl rfl rfl rfl rfl rfl ?_
    refine P_cp1 137 259 [.int (i32 (m.1 7))] [] rfl (fun _ => rfl) rfl (D_level w _ D (m.1 7) (Cn_i hm 7 rfl)) (fun y29 h30 => ?_)
    refine P_sto 138 [(2, .int (i32 y29)), (1, .int (i32 (cut ((m.1 73) - 1)))), (0, .ref 189)] rfl (fun _ => rfl) ?_
    refine P_ld 139 (.int (i32 y29)) rfl (fun _ => rfl) ?_
    refine P_ld 140 (.int (i32 2)) rfl (fun _ => rfl) ?_
    refine P_icE 159 143 rfl rfl rfl h30 (l32 2 rfl) rfl (fun h31 => ?_) (fun h31 => ?_)
    · skip
      refine P_gf 147 (.ref 242) rfl rfl rfl rfl rfl rfl ?_
      refine P_ld 149 (.int (i32 9)) rfl (fun _ => rfl) ?_
      refine P_ld 150 (.int (i32 (cut ((m.1 73) - 1)))) rfl (fun _ => rfl) ?_
      refine P_op 151 (cut (9 * (cut ((m.1 73) - 1)))) _ rfl (fun _ => rfl) o_mul ?_
      refine P_ld 152 (.int (i32 2)) rfl (fun _ => rfl) ?_
      refine P_op 153 (cut ((cut (9 * (cut ((m.1 73) - 1)))) + 2)) _ rfl (fun _ => rfl) o_add ?_
      refine P_iald2 154 80 (m.2 80) rfl rfl rfl cut_r rfl ?_
      refine P_ifF 159 157 rfl rfl rfl (rE_i (Cn_a hm 80) rfl _) rfl (fun h32 => ?_) (fun h32 => ?_)
      · skip
        refine P_lv (b := [(0, .ref 189), (1, .int (i32 (cut ((m.1 73) - 1)))), (2, .int (i32 y29))]) rfl rfl ⟨rfl, rfl, rfl, trivial⟩ ?_
        exact dg_goOn_159 w c N D bb (cut ((m.1 73) - 1)) y29 cut_r h30 m hm (jk [])
      · skip
        refine P_ld 158 (.int (i32 (-1))) rfl (fun _ => rfl) ?_
        refine P_sto 159 [(2, .int (i32 (-1))), (1, .int (i32 (cut ((m.1 73) - 1)))), (0, .ref 189)] rfl (fun _ => rfl) ?_
        refine P_lv (b := [(0, .ref 189), (1, .int (i32 (cut ((m.1 73) - 1)))), (2, .int (i32 (-1)))]) rfl rfl ⟨rfl, rfl, rfl, trivial⟩ ?_
        exact dg_goOn_159 w c N D bb (cut ((m.1 73) - 1)) (-1) cut_r (l32 (-1) rfl) m hm (jk [])
    · skip
      refine P_lv (b := [(0, .ref 189), (1, .int (i32 (cut ((m.1 73) - 1)))), (2, .int (i32 y29))]) rfl rfl ⟨rfl, rfl, rfl, trivial⟩ ?_
      exact dg_goOn_159 w c N D bb (cut ((m.1 73) - 1)) y29 cut_r h30 m hm (jk [])
def cs_readExpr_19 (s : mR) : Prop := Cn s
def cx_readExpr_19 : (mR) → Prop := (fun (e : mR) => Cn e)
def hd_readExpr_19 (c : Nat → Option am_C) (N : Nat) (s : mR) (j : Nat → Int) : ag_St af_T := (19, [(0, .ref 189)], [], (mhp s c, N), 0, 0)
def ex_readExpr_19 (c : Nat → Option am_C) (N : Nat) : (mR) → (Nat → Int) → ag_St af_T := (fun (e : mR) (j : Nat → Int) => ((85, [(0, .ref 189)], [], (mhp e c, N), 0, 0) : ag_St af_T))
def rfb_readExpr_19 (s : mR) : Option (Sum (mR) (mR)) :=
  if s.1 10 = 0 then
    if s.1 75 = 3 then
      some (.inr s)
    else
      if s.1 75 = 0 then
        bnd (rf_wantUnit s) fun y6 =>
        some (.inl y6.2)
      else
        if s.1 75 = 1 then
          bnd (rf_after s) fun y10 =>
          some (.inl y10.2)
        else
          bnd (rf_goOn s) fun y13 =>
          some (.inl y13.2)
  else
    some (.inr s)
theorem dh_readExpr_19 (w : wX) (c : Nat → Option am_C) (N D : Nat) (bb : Nat) (Q2 : Sum (mR) (mR) → ag_Re af_T → Prop) (H1 : ∀ s j, cs_readExpr_19 s → PP bb w D pm_244 (hd_readExpr_19 c N s j) (Q2 (.inl s))) (H2 : ∀ x j, cx_readExpr_19 x → PP bb w D pm_244 (ex_readExpr_19 c N x j) (Q2 (.inr x))) (s : mR) (j : Nat → Int) (hs : cs_readExpr_19 s) : PP (bb + 1) w D pm_244 (hd_readExpr_19 c N s j) (QS Q2 (rfb_readExpr_19 s)) := by
  have gm := hs
  unfold rfb_readExpr_19
  show PP (bb + 1) w D pm_244 (19, [(0, .ref 189)], [], (mhp (mO s [] []) c, N), 0, 0) _
  refine P1_ld 20 (.ref 189) rfl (fun _ => rfl) ?_
  refine P_gf1 23 (.int (i32 (s.1 10))) rfl rfl rfl rfl ?_
  refine P_ifE 85 26 rfl rfl rfl (Cn_i gm 10 rfl) rfl (fun h3 => ?_) (fun h3 => ?_)
  · skip
    refine P_gf 30 (.int (i32 (s.1 75))) rfl rfl rfl rfl rfl rfl ?_
    refine P_ld 31 (.int (i32 3)) rfl (fun _ => rfl) ?_
    refine P_icF 85 34 rfl rfl rfl (Cn_i gm 75 rfl) (l32 3 rfl) rfl (fun h4 => ?_) (fun h4 => ?_)
    · skip
      refine P_some ?_
      exact H2 s (jk []) gm
    · skip
      refine P_gf 38 (.int (i32 (s.1 75))) rfl rfl rfl rfl rfl rfl ?_
      refine P_cs (fun h5 => ?_) (fun h5 => ?_)
      · skip
        refine P_cast 0 h5 ?_
        refine P_pop 64 rfl (fun _ => rfl) ?_
        refine P_ld 65 (.ref 189) rfl (fun _ => rfl) ?_
        refine P_ca0 68 247 [.ref 189] [] rfl (fun _ => rfl) rfl (D_wantUnit w s c N D gm) (fun y6 n8 => ?_)
        refine P_goto 19 rfl (fun _ => rfl) ?_
        refine P_some ?_
        exact H1 y6.2 (jk []) n8
      · skip
        refine P_cs (fun h9 => ?_) (fun h9 => ?_)
        · skip
          refine P_cast 1 h9 ?_
          refine P_pop 71 rfl (fun _ => rfl) ?_
          refine P_ld 72 (.ref 189) rfl (fun _ => rfl) ?_
          refine P_ca0 75 255 [.ref 189] [] rfl (fun _ => rfl) rfl (D_after w s c N D gm) (fun y10 n12 => ?_)
          refine P_goto 19 rfl (fun _ => rfl) ?_
          refine P_some ?_
          exact H1 y10.2 (jk []) n12
        · skip
          refine P_lkd 78 rfl rfl (Cn_i gm 75 rfl) (by simp [Op.lookupswitch.offset, h5, Ne.symm h5, h9, Ne.symm h9]) ?_
          refine P_ld 79 (.ref 189) rfl (fun _ => rfl) ?_
          refine P_ca0 82 257 [.ref 189] [] rfl (fun _ => rfl) rfl (D_goOn w s c N D gm) (fun y13 n15 => ?_)
          refine P_goto 19 rfl (fun _ => rfl) ?_
          refine P_some ?_
          exact H1 y13.2 (jk []) n15
  · skip
    refine P_some ?_
    exact H2 s (jk []) gm
def rf_readExpr (m : mR) : Option (Int × mR) :=
  bnd (rf_beginChoice (mO m [(73, 0), (74, 0), (75, 0)] [])) fun y16 =>
  bnd (whl rfb_readExpr_19 y16.2) (fun e19 : mR =>
    some (0, e19))
theorem D_readExpr (w : wX) (m : mR) (c : Nat → Option am_C) (N D : Nat) (hm : Cn m) : PC w D 244 [.ref 189] (mhp m c, N) (QS (FR0 c N) (rf_readExpr m)) := by
  refine Pc_of (fun D bb => ?_) D
  unfold rf_readExpr
  show PP bb w D pm_244 (0, [(0, .ref 189)], [], (mhp (mO m [] []) c, N), 0, 0) _
  refine P_ld 1 (.ref 189) rfl (fun _ => rfl) ?_
  refine P_ld 2 (.int (i32 0)) rfl (fun _ => rfl) ?_
  refine P_pf (l' := [(73, 0)]) 5 0 rfl rfl rfl rfl rfl rfl ?_
  refine P_ld 6 (.ref 189) rfl (fun _ => rfl) ?_
  refine P_ld 7 (.int (i32 0)) rfl (fun _ => rfl) ?_
  refine P_pf (l' := [(73, 0), (74, 0)]) 10 0 rfl rfl rfl rfl rfl rfl ?_
  refine P_ld 11 (.ref 189) rfl (fun _ => rfl) ?_
  refine P_ld 12 (.int (i32 0)) rfl (fun _ => rfl) ?_
  refine P_pf (l' := [(73, 0), (74, 0), (75, 0)]) 15 0 rfl rfl rfl rfl rfl rfl ?_
  refine P_ld 16 (.ref 189) rfl (fun _ => rfl) ?_
  refine P_ca0 19 245 [.ref 189] [] rfl (fun _ => rfl) rfl (D_beginChoice w (mO m [(73, 0), (74, 0), (75, 0)] []) c N D (Cn_mO hm ⟨(rV_i rfl (l32 0 rfl)), (rV_i rfl (l32 0 rfl)), (rV_i rfl (l32 0 rfl)), trivial⟩ trivial)) (fun y16 n18 => ?_)
  refine P_bnd ?_
  refine P_whl (fun bb Q2 H1 H2 s9 j9 hs9 => dh_readExpr_19 w c N D bb Q2 H1 H2 s9 j9 hs9) bb (fun e19 j q20 => ?_) y16.2 (jk []) n18
  have q21 := q20
  show PP bb w D pm_244 (85, [(0, .ref 189)], [], (mhp (mO e19 [] []) c, N), 0, 0) (QS _ (some (0, e19)))
  exact P_re0 rfl rfl q21
def rfl_caseNumber_54 (v3 : Int) (m : mR) : Option (Int × mR) :=
  some (v3, m)
theorem dg_caseNumber_54 (w : wX) (c : Nat → Option am_C) (N D : Nat) (bb : Nat) (v3 : Int) (q3 : R64 v3) (m : mR) (hm : Cn m) (j : Nat → Int) : PP bb w D pm_266 (54, [(0, .ref 189), (1, .int (i32 (j 1))), (2, .int (i32 (j 2))), (3, .long (i64 v3))], [], (mhp m c, N), 0, 0) (QS (FR2 c N) (rfl_caseNumber_54 v3 m)) := by
  unfold rfl_caseNumber_54
  show PP bb w D pm_266 (54, [(0, .ref 189), (1, .int (i32 (j 1))), (2, .int (i32 (j 2))), (3, .long (i64 v3))], [], (mhp (mO m [] []) c, N), 0, 0) _
  refine P_ld 55 (.long (i64 v3)) rfl (fun _ => rfl) ?_
  exact P_re2 rfl rfl q3 hm
def rfl_caseNumber_37 (v1 : Int) (v2 : Int) (v3 : Int) (m : mR) : Option (Int × mR) :=
  if m.1 10 = 0 then
    bnd (rf_fits v3 v1) fun y2 =>
    bnd (rf_want y2 v2 m) fun y4 =>
    rfl_caseNumber_54 v3 y4.2
  else
    rfl_caseNumber_54 v3 m
theorem dg_caseNumber_37 (w : wX) (c : Nat → Option am_C) (N D : Nat) (bb : Nat) (v1 : Int) (v2 : Int) (v3 : Int) (q1 : R32 v1) (q2 : R32 v2) (q3 : R64 v3) (m : mR) (hm : Cn m) (j : Nat → Int) : PP bb w D pm_266 (37, [(0, .ref 189), (1, .int (i32 v1)), (2, .int (i32 v2)), (3, .long (i64 v3))], [], (mhp m c, N), 0, 0) (QS (FR2 c N) (rfl_caseNumber_37 v1 v2 v3 m)) := by
  unfold rfl_caseNumber_37
  show PP bb w D pm_266 (37, [(0, .ref 189), (1, .int (i32 v1)), (2, .int (i32 v2)), (3, .long (i64 v3))], [], (mhp (mO m [] []) c, N), 0, 0) _
  refine P_gf 41 (.int (i32 (m.1 10))) rfl rfl rfl rfl rfl rfl ?_
  refine P_ifE 54 44 rfl rfl rfl (Cn_i hm 10 rfl) rfl (fun h1 => ?_) (fun h1 => ?_)
  · skip
    refine P_ld 45 (.ref 189) rfl (fun _ => rfl) ?_
    refine P_ld 46 (.long (i64 v3)) rfl (fun _ => rfl) ?_
    refine P_ld 47 (.int (i32 v1)) rfl (fun _ => rfl) ?_
    refine P_cp1 50 262 [.long (i64 v3), .int (i32 v1)] [.ref 189] rfl (fun _ => rfl) rfl (D_fits w _ D v3 v1 q3 q1) (fun y2 h3 => ?_)
    refine P_ld 51 (.int (i32 v2)) rfl (fun _ => rfl) ?_
    refine P_ca0 54 256 [.ref 189, .int (i32 y2), .int (i32 v2)] [] rfl (fun _ => rfl) rfl (D_want w m c N D hm y2 v2 h3 q2) (fun y4 n6 => ?_)
    exact dg_caseNumber_54 w c N D bb v3 q3 y4.2 n6 (jk [(1, v1), (2, v2)])
  · skip
    exact dg_caseNumber_54 w c N D bb v3 q3 m hm (jk [(1, v1), (2, v2)])
def rfl_caseNumber_21 (m : mR) : Option (Int × mR) :=
  some (0, m)
theorem dg_caseNumber_21 (w : wX) (c : Nat → Option am_C) (N D : Nat) (bb : Nat) (m : mR) (hm : Cn m) (j : Nat → Int) : PP bb w D pm_266 (21, [(0, .ref 189), (1, .int (i32 (j 1)))], [], (mhp m c, N), 0, 0) (QS (FR2 c N) (rfl_caseNumber_21 m)) := by
  unfold rfl_caseNumber_21
  show PP bb w D pm_266 (21, [(0, .ref 189), (1, .int (i32 (j 1)))], [], (mhp (mO m [] []) c, N), 0, 0) _
  refine P_ld 22 (.long (i64 0)) rfl (fun _ => rfl) ?_
  exact P_re2 rfl rfl (l64 0 rfl) hm
def rf_caseNumber (v1 : Int) (m : mR) : Option (Int × mR) :=
  if m.1 10 ≤ 0 then
    if m.1 7 = 2 then
      bnd (rf_next m) fun y9 =>
      rfl_caseNumber_37 v1 (m.1 8) (m.1 12) y9.2
    else
      bnd (rf_bad m) fun y12 =>
      rfl_caseNumber_21 y12.2
  else
    some (0, m)
theorem D_caseNumber (w : wX) (m : mR) (c : Nat → Option am_C) (N D : Nat) (hm : Cn m) (v1 : Int) (q1 : R32 v1) : PC w D 266 [.ref 189, .int (i32 v1)] (mhp m c, N) (QS (FR2 c N) (rf_caseNumber v1 m)) := by
  refine Pc_of (fun D bb => ?_) D
  unfold rf_caseNumber
  show PP bb w D pm_266 (0, [(0, .ref 189), (1, .int (i32 v1))], [], (mhp (mO m [] []) c, N), 0, 0) _
  refine P_gf 4 (.int (i32 (m.1 10))) rfl rfl rfl rfl rfl rfl ?_
  refine P_ifF 9 7 rfl rfl rfl (Cn_i hm 10 rfl) rfl (fun h7 => ?_) (fun h7 => ?_)
  · skip
    refine P_gf 13 (.int (i32 (m.1 7))) rfl rfl rfl rfl rfl rfl ?_
    refine P_ld 14 (.int (i32 2)) rfl (fun _ => rfl) ?_
    refine P_icF 23 17 rfl rfl rfl (Cn_i hm 7 rfl) (l32 2 rfl) rfl (fun h8 => ?_) (fun h8 => ?_)
    · skip
      refine P_gf 27 (.int (i32 (m.1 8))) rfl rfl rfl rfl rfl rfl ?_
      refine P_sto 28 [(2, .int (i32 (m.1 8))), (0, .ref 189), (1, .int (i32 v1))] rfl (fun _ => rfl) ?_
      refine P_gf 32 (.long (i64 (m.1 12))) rfl rfl rfl rfl rfl rfl ?_
      refine P_sto 33 [(3, .long (i64 (m.1 12))), (2, .int (i32 (m.1 8))), (0, .ref 189), (1, .int (i32 v1))] rfl (fun _ => rfl) ?_
      refine P_ld 34 (.ref 189) rfl (fun _ => rfl) ?_
      refine P_ca0 37 212 [.ref 189] [] rfl (fun _ => rfl) rfl (D_next w m c N D hm) (fun y9 n11 => ?_)
      refine P_lv (b := [(0, .ref 189), (1, .int (i32 v1)), (2, .int (i32 (m.1 8))), (3, .long (i64 (m.1 12)))]) rfl rfl ⟨rfl, rfl, rfl, rfl, trivial⟩ ?_
      exact dg_caseNumber_37 w c N D bb v1 (m.1 8) (m.1 12) q1 (Cn_i hm 8 rfl) (Cn_l hm 12 rfl) y9.2 n11 (jk [])
    · skip
      refine P_ld 18 (.ref 189) rfl (fun _ => rfl) ?_
      refine P_ca0 21 226 [.ref 189] [] rfl (fun _ => rfl) rfl (D_bad w m c N D hm) (fun y12 n14 => ?_)
      exact dg_caseNumber_21 w c N D bb y12.2 n14 (jk [(1, v1)])
  · skip
    refine P_ld 8 (.long (i64 0)) rfl (fun _ => rfl) ?_
    exact P_re2 rfl rfl (l64 0 rfl) hm
def rfl_takeCase_123 (v1 : Int) (m : mR) : Option (Int × mR) :=
  some (0, (mO m [] [(42, upI (m.2 42) v1 (cut (((m.2 42) v1) + 1)))]))
theorem dg_takeCase_123 (w : wX) (c : Nat → Option am_C) (N D : Nat) (bb : Nat) (v1 : Int) (q1 : R32 v1) (m : mR) (hm : Cn m) (j : Nat → Int) : PP bb w D pm_265 (123, [(0, .ref 189), (1, .int (i32 v1)), (2, .int (i32 (j 2)))], [], (mhp m c, N), 0, 0) (QS (FR0 c N) (rfl_takeCase_123 v1 m)) := by
  unfold rfl_takeCase_123
  show PP bb w D pm_265 (123, [(0, .ref 189), (1, .int (i32 v1)), (2, .int (i32 (j 2)))], [], (mhp (mO m [] []) c, N), 0, 0) _
  refine P_gf 127 (.ref 212) rfl rfl rfl rfl rfl rfl ?_
  refine P_ld 128 (.int (i32 v1)) rfl (fun _ => rfl) ?_
  refine P_dup2 129 rfl (fun _ => rfl) ?_
  refine P_iald2 130 42 (m.2 42) rfl rfl rfl q1 rfl ?_
  refine P_ld 131 (.int (i32 1)) rfl (fun _ => rfl) ?_
  refine P_op 132 (cut (((m.2 42) v1) + 1)) _ rfl (fun _ => rfl) o_add ?_
  refine P_iast2 (a' := [(42, upI (m.2 42) v1 (cut (((m.2 42) v1) + 1)))]) 133 42 (m.2 42) rfl rfl rfl q1 rfl rfl ?_
  exact P_re0 rfl rfl (Cn_mO hm trivial ⟨(rE_ui (Cn_a hm 42) rfl cut_r), trivial⟩)
def rfl_takeCase_116 (v1 : Int) (u1 : Int) (u2 : Int) (m : mR) : Option (Int × mR) :=
  bnd (rf_need 59 (mO m [] [(45, upI (m.2 45) u1 u2)])) fun y1 =>
  rfl_takeCase_123 v1 y1.2
theorem dg_takeCase_116 (w : wX) (c : Nat → Option am_C) (N D : Nat) (bb : Nat) (v1 : Int) (u1 : Int) (u2 : Int) (q1 : R32 v1) (r1 : R32 u1) (r2 : R32 u2) (m : mR) (hm : Cn m) (j : Nat → Int) : PP bb w D pm_265 (116, [(0, .ref 189), (1, .int (i32 v1)), (2, .int (i32 (j 2)))], [.int (i32 u2), .int (i32 u1), .ref 215], (mhp m c, N), 0, 0) (QS (FR0 c N) (rfl_takeCase_116 v1 u1 u2 m)) := by
  unfold rfl_takeCase_116
  show PP bb w D pm_265 (116, [(0, .ref 189), (1, .int (i32 v1)), (2, .int (i32 (j 2)))], [.int (i32 u2), .int (i32 u1), .ref 215], (mhp (mO m [] []) c, N), 0, 0) _
  refine P_iast2 (a' := [(45, upI (m.2 45) u1 u2)]) 117 45 (m.2 45) rfl rfl rfl r1 rfl rfl ?_
  refine P_ld 118 (.ref 189) rfl (fun _ => rfl) ?_
  refine P_ld 120 (.int (i32 59)) rfl (fun _ => rfl) ?_
  refine P_ca0 123 232 [.ref 189, .int (i32 59)] [] rfl (fun _ => rfl) rfl (D_need w (mO m [] [(45, upI (m.2 45) u1 u2)]) c N D (Cn_mO hm trivial ⟨(rE_ui (Cn_a hm 45) rfl r2), trivial⟩) 59 (l32 59 rfl)) (fun y1 n3 => ?_)
  exact dg_takeCase_123 w c N D bb v1 q1 y1.2 n3 (jk [(2, j 2)])
def rfl_takeCase_107 (v1 : Int) (v2 : Int) (m : mR) : Option (Int × mR) :=
  bnd (rf_stateHere m) fun y4 =>
  rfl_takeCase_116 v1 v2 y4.1 y4.2
theorem dg_takeCase_107 (w : wX) (c : Nat → Option am_C) (N D : Nat) (bb : Nat) (v1 : Int) (v2 : Int) (q1 : R32 v1) (q2 : R32 v2) (m : mR) (hm : Cn m) (j : Nat → Int) : PP bb w D pm_265 (107, [(0, .ref 189), (1, .int (i32 v1)), (2, .int (i32 v2))], [], (mhp m c, N), 0, 0) (QS (FR0 c N) (rfl_takeCase_107 v1 v2 m)) := by
  unfold rfl_takeCase_107
  show PP bb w D pm_265 (107, [(0, .ref 189), (1, .int (i32 v1)), (2, .int (i32 v2))], [], (mhp (mO m [] []) c, N), 0, 0) _
  refine P_gf 111 (.ref 215) rfl rfl rfl rfl rfl rfl ?_
  refine P_ld 112 (.int (i32 v2)) rfl (fun _ => rfl) ?_
  refine P_ld 113 (.ref 189) rfl (fun _ => rfl) ?_
  refine P_ca1 116 242 [.ref 189] [.int (i32 v2), .ref 215] rfl (fun _ => rfl) rfl (D_stateHere w m c N D hm) (fun y4 h5 n6 => ?_)
  exact dg_takeCase_116 w c N D bb v1 v2 y4.1 q1 q2 h5 y4.2 n6 (jk [(2, v2)])
def rfl_takeCase_101 (v1 : Int) (v2 : Int) (m : mR) : Option (Int × mR) :=
  bnd (rf_need 58 m) fun y7 =>
  rfl_takeCase_107 v1 v2 y7.2
theorem dg_takeCase_101 (w : wX) (c : Nat → Option am_C) (N D : Nat) (bb : Nat) (v1 : Int) (v2 : Int) (q1 : R32 v1) (q2 : R32 v2) (m : mR) (hm : Cn m) (j : Nat → Int) : PP bb w D pm_265 (101, [(0, .ref 189), (1, .int (i32 v1)), (2, .int (i32 v2))], [], (mhp m c, N), 0, 0) (QS (FR0 c N) (rfl_takeCase_101 v1 v2 m)) := by
  unfold rfl_takeCase_101
  show PP bb w D pm_265 (101, [(0, .ref 189), (1, .int (i32 v1)), (2, .int (i32 v2))], [], (mhp (mO m [] []) c, N), 0, 0) _
  refine P_ld 102 (.ref 189) rfl (fun _ => rfl) ?_
  refine P_ld 104 (.int (i32 58)) rfl (fun _ => rfl) ?_
  refine P_ca0 107 232 [.ref 189, .int (i32 58)] [] rfl (fun _ => rfl) rfl (D_need w m c N D hm 58 (l32 58 rfl)) (fun y7 n9 => ?_)
  exact dg_takeCase_107 w c N D bb v1 v2 q1 q2 y7.2 n9 (jk [])
def rfl_takeCase_100 (v1 : Int) (v2 : Int) (u1 : Int) (u2 : Int) (m : mR) : Option (Int × mR) :=
  rfl_takeCase_101 v1 v2 (mO m [] [(98, upI (m.2 98) u1 u2)])
theorem dg_takeCase_100 (w : wX) (c : Nat → Option am_C) (N D : Nat) (bb : Nat) (v1 : Int) (v2 : Int) (u1 : Int) (u2 : Int) (q1 : R32 v1) (q2 : R32 v2) (r1 : R32 u1) (r2 : R64 u2) (m : mR) (hm : Cn m) (j : Nat → Int) : PP bb w D pm_265 (100, [(0, .ref 189), (1, .int (i32 v1)), (2, .int (i32 v2))], [.long (i64 u2), .int (i32 u1), .ref 260], (mhp m c, N), 0, 0) (QS (FR0 c N) (rfl_takeCase_100 v1 v2 u1 u2 m)) := by
  unfold rfl_takeCase_100
  show PP bb w D pm_265 (100, [(0, .ref 189), (1, .int (i32 v1)), (2, .int (i32 v2))], [.long (i64 u2), .int (i32 u1), .ref 260], (mhp (mO m [] []) c, N), 0, 0) _
  refine P_last2 (a' := [(98, upI (m.2 98) u1 u2)]) 101 98 (m.2 98) rfl rfl rfl r1 rfl rfl ?_
  exact dg_takeCase_101 w c N D bb v1 v2 q1 q2 (mO m [] [(98, upI (m.2 98) u1 u2)]) (Cn_mO hm trivial ⟨(rE_ul (Cn_a hm 98) rfl r2), trivial⟩) (jk [])
def rfl_takeCase_85 (v1 : Int) (v2 : Int) (m : mR) : Option (Int × mR) :=
  bnd (rf_caseNumber ((m.2 43) v1) m) fun y10 =>
  rfl_takeCase_100 v1 v2 v2 y10.1 y10.2
theorem dg_takeCase_85 (w : wX) (c : Nat → Option am_C) (N D : Nat) (bb : Nat) (v1 : Int) (v2 : Int) (q1 : R32 v1) (q2 : R32 v2) (m : mR) (hm : Cn m) (j : Nat → Int) : PP bb w D pm_265 (85, [(0, .ref 189), (1, .int (i32 v1)), (2, .int (i32 v2))], [], (mhp m c, N), 0, 0) (QS (FR0 c N) (rfl_takeCase_85 v1 v2 m)) := by
  unfold rfl_takeCase_85
  show PP bb w D pm_265 (85, [(0, .ref 189), (1, .int (i32 v1)), (2, .int (i32 v2))], [], (mhp (mO m [] []) c, N), 0, 0) _
  refine P_gf 89 (.ref 260) rfl rfl rfl rfl rfl rfl ?_
  refine P_ld 90 (.int (i32 v2)) rfl (fun _ => rfl) ?_
  refine P_ld 91 (.ref 189) rfl (fun _ => rfl) ?_
  refine P_gf 95 (.ref 213) rfl rfl rfl rfl rfl rfl ?_
  refine P_ld 96 (.int (i32 v1)) rfl (fun _ => rfl) ?_
  refine P_iald2 97 43 (m.2 43) rfl rfl rfl q1 rfl ?_
  refine P_ca2 100 266 [.ref 189, .int (i32 ((m.2 43) v1))] [.int (i32 v2), .ref 260] rfl (fun _ => rfl) rfl (D_caseNumber w m c N D hm ((m.2 43) v1) (rE_i (Cn_a hm 43) rfl _)) (fun y10 h11 n12 => ?_)
  exact dg_takeCase_100 w c N D bb v1 v2 v2 y10.1 q1 q2 q2 h11 y10.2 n12 (jk [])
def rfl_takeCase_55 (v1 : Int) (v2 : Int) (u1 : Int) (u2 : Int) (m : mR) : Option (Int × mR) :=
  if m.1 10 = 0 then
    if m.1 7 = 38 then
      bnd (rf_next (mO m [] [(97, upI (m.2 97) u1 u2), (98, upI (m.2 98) v2 (-1))])) fun y15 =>
      rfl_takeCase_85 v1 v2 y15.2
    else
      rfl_takeCase_101 v1 v2 (mO m [] [(97, upI (m.2 97) u1 u2), (98, upI (m.2 98) v2 (-1))])
  else
    rfl_takeCase_101 v1 v2 (mO m [] [(97, upI (m.2 97) u1 u2), (98, upI (m.2 98) v2 (-1))])
theorem dg_takeCase_55 (w : wX) (c : Nat → Option am_C) (N D : Nat) (bb : Nat) (v1 : Int) (v2 : Int) (u1 : Int) (u2 : Int) (q1 : R32 v1) (q2 : R32 v2) (r1 : R32 u1) (r2 : R64 u2) (m : mR) (hm : Cn m) (j : Nat → Int) : PP bb w D pm_265 (55, [(0, .ref 189), (1, .int (i32 v1)), (2, .int (i32 v2))], [.long (i64 u2), .int (i32 u1), .ref 259], (mhp m c, N), 0, 0) (QS (FR0 c N) (rfl_takeCase_55 v1 v2 u1 u2 m)) := by
  unfold rfl_takeCase_55
  show PP bb w D pm_265 (55, [(0, .ref 189), (1, .int (i32 v1)), (2, .int (i32 v2))], [.long (i64 u2), .int (i32 u1), .ref 259], (mhp (mO m [] []) c, N), 0, 0) _
  refine P_last2 (a' := [(97, upI (m.2 97) u1 u2)]) 56 97 (m.2 97) rfl rfl rfl r1 rfl rfl ?_
  refine P_gf 60 (.ref 260) rfl rfl rfl rfl rfl rfl ?_
  refine P_ld 61 (.int (i32 v2)) rfl (fun _ => rfl) ?_
  refine P_ld 64 (.long (i64 (-1))) rfl (fun _ => rfl) ?_
  refine P_last2 (a' := [(97, upI (m.2 97) u1 u2), (98, upI (m.2 98) v2 (-1))]) 65 98 (m.2 98) rfl rfl rfl q2 rfl rfl ?_
  refine P_gf 69 (.int (i32 (m.1 10))) rfl rfl rfl rfl rfl rfl ?_
  refine P_ifE 101 72 rfl rfl rfl (Cn_i hm 10 rfl) rfl (fun h13 => ?_) (fun h13 => ?_)
  · skip
    refine P_gf 76 (.int (i32 (m.1 7))) rfl rfl rfl rfl rfl rfl ?_
    refine P_ld 78 (.int (i32 38)) rfl (fun _ => rfl) ?_
    refine P_icE 101 81 rfl rfl rfl (Cn_i hm 7 rfl) (l32 38 rfl) rfl (fun h14 => ?_) (fun h14 => ?_)
    · skip
      refine P_ld 82 (.ref 189) rfl (fun _ => rfl) ?_
      refine P_ca0 85 212 [.ref 189] [] rfl (fun _ => rfl) rfl (D_next w (mO m [] [(97, upI (m.2 97) u1 u2), (98, upI (m.2 98) v2 (-1))]) c N D (Cn_mO hm trivial ⟨(rE_ul (Cn_a hm 97) rfl r2), (rE_ul (Cn_a hm 98) rfl (l64 (-1) rfl)), trivial⟩)) (fun y15 n17 => ?_)
      exact dg_takeCase_85 w c N D bb v1 v2 q1 q2 y15.2 n17 (jk [])
    · skip
      exact dg_takeCase_101 w c N D bb v1 v2 q1 q2 (mO m [] [(97, upI (m.2 97) u1 u2), (98, upI (m.2 98) v2 (-1))]) (Cn_mO hm trivial ⟨(rE_ul (Cn_a hm 97) rfl r2), (rE_ul (Cn_a hm 98) rfl (l64 (-1) rfl)), trivial⟩) (jk [])
  · skip
    exact dg_takeCase_101 w c N D bb v1 v2 q1 q2 (mO m [] [(97, upI (m.2 97) u1 u2), (98, upI (m.2 98) v2 (-1))]) (Cn_mO hm trivial ⟨(rE_ul (Cn_a hm 97) rfl r2), (rE_ul (Cn_a hm 98) rfl (l64 (-1) rfl)), trivial⟩) (jk [])
def rfl_takeCase_20 (v1 : Int) (m : mR) : Option (Int × mR) :=
  if m.1 10 ≤ 0 then
    bnd (rf_caseNumber ((m.2 43) v1) m) fun y19 =>
    rfl_takeCase_55 v1 (cut ((cut (8 * v1)) + ((m.2 42) v1))) (cut ((cut (8 * v1)) + ((m.2 42) v1))) y19.1 y19.2
  else
    some (0, m)
theorem dg_takeCase_20 (w : wX) (c : Nat → Option am_C) (N D : Nat) (bb : Nat) (v1 : Int) (q1 : R32 v1) (m : mR) (hm : Cn m) (j : Nat → Int) : PP bb w D pm_265 (20, [(0, .ref 189), (1, .int (i32 v1))], [], (mhp m c, N), 0, 0) (QS (FR0 c N) (rfl_takeCase_20 v1 m)) := by
  unfold rfl_takeCase_20
  show PP bb w D pm_265 (20, [(0, .ref 189), (1, .int (i32 v1))], [], (mhp (mO m [] []) c, N), 0, 0) _
  refine P_gf 24 (.int (i32 (m.1 10))) rfl rfl rfl rfl rfl rfl ?_
  refine P_ifF 28 27 rfl rfl rfl (Cn_i hm 10 rfl) rfl (fun h18 => ?_) (fun h18 => ?_)
  · skip
    refine P_ld 30 (.int (i32 8)) rfl (fun _ => rfl) ?_
    refine P_ld 31 (.int (i32 v1)) rfl (fun _ => rfl) ?_
    refine P_op 32 (cut (8 * v1)) _ rfl (fun _ => rfl) o_mul ?_
    refine P_gf 36 (.ref 212) rfl rfl rfl rfl rfl rfl ?_
    refine P_ld 37 (.int (i32 v1)) rfl (fun _ => rfl) ?_
    refine P_iald2 38 42 (m.2 42) rfl rfl rfl q1 rfl ?_
    refine P_op 39 (cut ((cut (8 * v1)) + ((m.2 42) v1))) _ rfl (fun _ => rfl) o_add ?_
    refine P_sto 40 [(2, .int (i32 (cut ((cut (8 * v1)) + ((m.2 42) v1))))), (0, .ref 189), (1, .int (i32 v1))] rfl (fun _ => rfl) ?_
    refine P_gf 44 (.ref 259) rfl rfl rfl rfl rfl rfl ?_
    refine P_ld 45 (.int (i32 (cut ((cut (8 * v1)) + ((m.2 42) v1))))) rfl (fun _ => rfl) ?_
    refine P_ld 46 (.ref 189) rfl (fun _ => rfl) ?_
    refine P_gf 50 (.ref 213) rfl rfl rfl rfl rfl rfl ?_
    refine P_ld 51 (.int (i32 v1)) rfl (fun _ => rfl) ?_
    refine P_iald2 52 43 (m.2 43) rfl rfl rfl q1 rfl ?_
    refine P_ca2 55 266 [.ref 189, .int (i32 ((m.2 43) v1))] [.int (i32 (cut ((cut (8 * v1)) + ((m.2 42) v1)))), .ref 259] rfl (fun _ => rfl) rfl (D_caseNumber w m c N D hm ((m.2 43) v1) (rE_i (Cn_a hm 43) rfl _)) (fun y19 h20 n21 => ?_)
    refine P_lv (b := [(0, .ref 189), (1, .int (i32 v1)), (2, .int (i32 (cut ((cut (8 * v1)) + ((m.2 42) v1)))))]) rfl rfl ⟨rfl, rfl, rfl, trivial⟩ ?_
    exact dg_takeCase_55 w c N D bb v1 (cut ((cut (8 * v1)) + ((m.2 42) v1))) (cut ((cut (8 * v1)) + ((m.2 42) v1))) y19.1 q1 cut_r cut_r h20 y19.2 n21 (jk [])
  · skip
    exact P_re0 rfl rfl hm
def rf_takeCase (v1 : Int) (m : mR) : Option (Int × mR) :=
  if (m.2 42) v1 = 8 then
    bnd (rf_wrong 4 (m.1 8) m) fun y23 =>
    rfl_takeCase_20 v1 y23.2
  else
    rfl_takeCase_20 v1 m
theorem D_takeCase (w : wX) (m : mR) (c : Nat → Option am_C) (N D : Nat) (hm : Cn m) (v1 : Int) (q1 : R32 v1) : PC w D 265 [.ref 189, .int (i32 v1)] (mhp m c, N) (QS (FR0 c N) (rf_takeCase v1 m)) := by
  refine Pc_of (fun D bb => ?_) D
  unfold rf_takeCase
  show PP bb w D pm_265 (0, [(0, .ref 189), (1, .int (i32 v1))], [], (mhp (mO m [] []) c, N), 0, 0) _
  refine P_gf 4 (.ref 212) rfl rfl rfl rfl rfl rfl ?_
  refine P_ld 5 (.int (i32 v1)) rfl (fun _ => rfl) ?_
  refine P_iald2 6 42 (m.2 42) rfl rfl rfl q1 rfl ?_
  refine P_ld 8 (.int (i32 8)) rfl (fun _ => rfl) ?_
  refine P_icE 20 11 rfl rfl rfl (rE_i (Cn_a hm 42) rfl _) (l32 8 rfl) rfl (fun h22 => ?_) (fun h22 => ?_)
  · skip
    refine P_ld 12 (.ref 189) rfl (fun _ => rfl) ?_
    refine P_ld 13 (.int (i32 4)) rfl (fun _ => rfl) ?_
    refine P_gf 17 (.int (i32 (m.1 8))) rfl rfl rfl rfl rfl rfl ?_
    refine P_ca0 20 222 [.ref 189, .int (i32 4), .int (i32 (m.1 8))] [] rfl (fun _ => rfl) rfl (D_wrong w m c N D hm 4 (m.1 8) (l32 4 rfl) (Cn_i hm 8 rfl)) (fun y23 n25 => ?_)
    exact dg_takeCase_20 w c N D bb v1 q1 y23.2 n25 (jk [])
  · skip
    exact dg_takeCase_20 w c N D bb v1 q1 m hm (jk [])
def cs_takeSelect_44 (s : mR) : Prop := Cn s
def cx_takeSelect_44 : (mR) → Prop := (fun (e : mR) => Cn e)
def hd_takeSelect_44 (c : Nat → Option am_C) (N : Nat) (v1 : Int) (s : mR) (j : Nat → Int) : ag_St af_T := (44, [(0, .ref 189), (1, .int (i32 v1))], [], (mhp s c, N), 0, 0)
def ex_takeSelect_44 (c : Nat → Option am_C) (N : Nat) (v1 : Int) : (mR) → (Nat → Int) → ag_St af_T := (fun (e : mR) (j : Nat → Int) => ((67, [(0, .ref 189), (1, .int (i32 v1))], [], (mhp e c, N), 0, 0) : ag_St af_T))
def rfl_takeSelect_96 (m : mR) : Option (Int × mR) :=
  bnd (rf_need 125 m) fun y2 =>
  some (0, y2.2)
theorem dg_takeSelect_96 (w : wX) (c : Nat → Option am_C) (N D : Nat) (bb : Nat) (m : mR) (hm : Cn m) (j : Nat → Int) : PP bb w D pm_243 (96, [(0, .ref 189), (1, .int (i32 (j 1)))], [], (mhp m c, N), 0, 0) (QS (FR0 c N) (rfl_takeSelect_96 m)) := by
  unfold rfl_takeSelect_96
  show PP bb w D pm_243 (96, [(0, .ref 189), (1, .int (i32 (j 1)))], [], (mhp (mO m [] []) c, N), 0, 0) _
  refine P_ld 97 (.ref 189) rfl (fun _ => rfl) ?_
  refine P_ld 99 (.int (i32 125)) rfl (fun _ => rfl) ?_
  refine P_ca0 102 232 [.ref 189, .int (i32 125)] [] rfl (fun _ => rfl) rfl (D_need w m c N D hm 125 (l32 125 rfl)) (fun y2 n4 => ?_)
  exact P_re0 rfl rfl n4
def rfl_takeSelect_89 (u1 : Int) (u2 : Int) (m : mR) : Option (Int × mR) :=
  bnd (rf_need 59 (mO m [] [(44, upI (m.2 44) u1 u2)])) fun y5 =>
  rfl_takeSelect_96 y5.2
theorem dg_takeSelect_89 (w : wX) (c : Nat → Option am_C) (N D : Nat) (bb : Nat) (u1 : Int) (u2 : Int) (r1 : R32 u1) (r2 : R32 u2) (m : mR) (hm : Cn m) (j : Nat → Int) : PP bb w D pm_243 (89, [(0, .ref 189), (1, .int (i32 (j 1)))], [.int (i32 u2), .int (i32 u1), .ref 214], (mhp m c, N), 0, 0) (QS (FR0 c N) (rfl_takeSelect_89 u1 u2 m)) := by
  unfold rfl_takeSelect_89
  show PP bb w D pm_243 (89, [(0, .ref 189), (1, .int (i32 (j 1)))], [.int (i32 u2), .int (i32 u1), .ref 214], (mhp (mO m [] []) c, N), 0, 0) _
  refine P_iast2 (a' := [(44, upI (m.2 44) u1 u2)]) 90 44 (m.2 44) rfl rfl rfl r1 rfl rfl ?_
  refine P_ld 91 (.ref 189) rfl (fun _ => rfl) ?_
  refine P_ld 93 (.int (i32 59)) rfl (fun _ => rfl) ?_
  refine P_ca0 96 232 [.ref 189, .int (i32 59)] [] rfl (fun _ => rfl) rfl (D_need w (mO m [] [(44, upI (m.2 44) u1 u2)]) c N D (Cn_mO hm trivial ⟨(rE_ui (Cn_a hm 44) rfl r2), trivial⟩) 59 (l32 59 rfl)) (fun y5 n7 => ?_)
  exact dg_takeSelect_96 w c N D bb y5.2 n7 (jk [(1, j 1)])
def rfl_takeSelect_80 (v1 : Int) (m : mR) : Option (Int × mR) :=
  bnd (rf_stateHere m) fun y8 =>
  rfl_takeSelect_89 v1 y8.1 y8.2
theorem dg_takeSelect_80 (w : wX) (c : Nat → Option am_C) (N D : Nat) (bb : Nat) (v1 : Int) (q1 : R32 v1) (m : mR) (hm : Cn m) (j : Nat → Int) : PP bb w D pm_243 (80, [(0, .ref 189), (1, .int (i32 v1))], [], (mhp m c, N), 0, 0) (QS (FR0 c N) (rfl_takeSelect_80 v1 m)) := by
  unfold rfl_takeSelect_80
  show PP bb w D pm_243 (80, [(0, .ref 189), (1, .int (i32 v1))], [], (mhp (mO m [] []) c, N), 0, 0) _
  refine P_gf 84 (.ref 214) rfl rfl rfl rfl rfl rfl ?_
  refine P_ld 85 (.int (i32 v1)) rfl (fun _ => rfl) ?_
  refine P_ld 86 (.ref 189) rfl (fun _ => rfl) ?_
  refine P_ca1 89 242 [.ref 189] [.int (i32 v1), .ref 214] rfl (fun _ => rfl) rfl (D_stateHere w m c N D hm) (fun y8 h9 n10 => ?_)
  exact dg_takeSelect_89 w c N D bb v1 y8.1 q1 h9 y8.2 n10 (jk [(1, v1)])
def rfl_takeSelect_74 (v1 : Int) (m : mR) : Option (Int × mR) :=
  bnd (rf_need 58 m) fun y11 =>
  rfl_takeSelect_80 v1 y11.2
theorem dg_takeSelect_74 (w : wX) (c : Nat → Option am_C) (N D : Nat) (bb : Nat) (v1 : Int) (q1 : R32 v1) (m : mR) (hm : Cn m) (j : Nat → Int) : PP bb w D pm_243 (74, [(0, .ref 189), (1, .int (i32 v1))], [], (mhp m c, N), 0, 0) (QS (FR0 c N) (rfl_takeSelect_74 v1 m)) := by
  unfold rfl_takeSelect_74
  show PP bb w D pm_243 (74, [(0, .ref 189), (1, .int (i32 v1))], [], (mhp (mO m [] []) c, N), 0, 0) _
  refine P_ld 75 (.ref 189) rfl (fun _ => rfl) ?_
  refine P_ld 77 (.int (i32 58)) rfl (fun _ => rfl) ?_
  refine P_ca0 80 232 [.ref 189, .int (i32 58)] [] rfl (fun _ => rfl) rfl (D_need w m c N D hm 58 (l32 58 rfl)) (fun y11 n13 => ?_)
  exact dg_takeSelect_80 w c N D bb v1 q1 y11.2 n13 (jk [])
def rfl_takeSelect_67 (v1 : Int) (m : mR) : Option (Int × mR) :=
  bnd (rf_need 308 m) fun y14 =>
  rfl_takeSelect_74 v1 y14.2
theorem dg_takeSelect_67 (w : wX) (c : Nat → Option am_C) (N D : Nat) (bb : Nat) (v1 : Int) (q1 : R32 v1) (m : mR) (hm : Cn m) (j : Nat → Int) : PP bb w D pm_243 (67, [(0, .ref 189), (1, .int (i32 v1))], [], (mhp m c, N), 0, 0) (QS (FR0 c N) (rfl_takeSelect_67 v1 m)) := by
  unfold rfl_takeSelect_67
  show PP bb w D pm_243 (67, [(0, .ref 189), (1, .int (i32 v1))], [], (mhp (mO m [] []) c, N), 0, 0) _
  refine P_ld 68 (.ref 189) rfl (fun _ => rfl) ?_
  refine P_ld 71 (.int (i32 308)) rfl (fun _ => rfl) ?_
  refine P_ca0 74 232 [.ref 189, .int (i32 308)] [] rfl (fun _ => rfl) rfl (D_need w m c N D hm 308 (l32 308 rfl)) (fun y14 n16 => ?_)
  exact dg_takeSelect_74 w c N D bb v1 q1 y14.2 n16 (jk [])
def rfb_takeSelect_44 (v1 : Int) (s : mR) : Option (Sum (mR) (mR)) :=
  if s.1 10 = 0 then
    if s.1 7 = 2 then
      bnd (rf_takeCase v1 s) fun y20 =>
      some (.inl y20.2)
    else
      some (.inr s)
  else
    some (.inr s)
theorem dh_takeSelect_44 (w : wX) (c : Nat → Option am_C) (N D : Nat) (v1 : Int) (q1 : R32 v1) (bb : Nat) (Q2 : Sum (mR) (mR) → ag_Re af_T → Prop) (H1 : ∀ s j, cs_takeSelect_44 s → PP bb w D pm_243 (hd_takeSelect_44 c N v1 s j) (Q2 (.inl s))) (H2 : ∀ x j, cx_takeSelect_44 x → PP bb w D pm_243 (ex_takeSelect_44 c N v1 x j) (Q2 (.inr x))) (s : mR) (j : Nat → Int) (hs : cs_takeSelect_44 s) : PP (bb + 1) w D pm_243 (hd_takeSelect_44 c N v1 s j) (QS Q2 (rfb_takeSelect_44 v1 s)) := by
  have gm := hs
  unfold rfb_takeSelect_44
  show PP (bb + 1) w D pm_243 (44, [(0, .ref 189), (1, .int (i32 v1))], [], (mhp (mO s [] []) c, N), 0, 0) _
  refine P1_ld 45 (.ref 189) rfl (fun _ => rfl) ?_
  refine P_gf1 48 (.int (i32 (s.1 10))) rfl rfl rfl rfl ?_
  refine P_ifE 67 51 rfl rfl rfl (Cn_i gm 10 rfl) rfl (fun h18 => ?_) (fun h18 => ?_)
  · skip
    refine P_gf 55 (.int (i32 (s.1 7))) rfl rfl rfl rfl rfl rfl ?_
    refine P_ld 56 (.int (i32 2)) rfl (fun _ => rfl) ?_
    refine P_icE 67 59 rfl rfl rfl (Cn_i gm 7 rfl) (l32 2 rfl) rfl (fun h19 => ?_) (fun h19 => ?_)
    · skip
      refine P_ld 60 (.ref 189) rfl (fun _ => rfl) ?_
      refine P_ld 61 (.int (i32 v1)) rfl (fun _ => rfl) ?_
      refine P_ca0 64 265 [.ref 189, .int (i32 v1)] [] rfl (fun _ => rfl) rfl (D_takeCase w s c N D gm v1 q1) (fun y20 n22 => ?_)
      refine P_goto 44 rfl (fun _ => rfl) ?_
      refine P_some ?_
      exact H1 y20.2 (jk []) n22
    · skip
      refine P_some ?_
      exact H2 s (jk []) gm
  · skip
    refine P_some ?_
    exact H2 s (jk []) gm
def rfl_takeSelect_18 (v1 : Int) (m : mR) : Option (Int × mR) :=
  bnd (rf_need 123 (mO m [] [(43, upI (m.2 43) v1 (m.1 69)), (96, upI (m.2 96) v1 (m.1 28))])) fun y23 =>
  bnd (whl (rfb_takeSelect_44 v1) y23.2) (fun e26 : mR =>
    rfl_takeSelect_67 v1 e26)
theorem dg_takeSelect_18 (w : wX) (c : Nat → Option am_C) (N D : Nat) (bb : Nat) (v1 : Int) (q1 : R32 v1) (m : mR) (hm : Cn m) (j : Nat → Int) : PP bb w D pm_243 (18, [(0, .ref 189), (1, .int (i32 v1))], [], (mhp m c, N), 0, 0) (QS (FR0 c N) (rfl_takeSelect_18 v1 m)) := by
  unfold rfl_takeSelect_18
  show PP bb w D pm_243 (18, [(0, .ref 189), (1, .int (i32 v1))], [], (mhp (mO m [] []) c, N), 0, 0) _
  refine P_gf 22 (.ref 258) rfl rfl rfl rfl rfl rfl ?_
  refine P_ld 23 (.int (i32 v1)) rfl (fun _ => rfl) ?_
  refine P_gf 27 (.int (i32 (m.1 28))) rfl rfl rfl rfl rfl rfl ?_
  refine P_iast2 (a' := [(96, upI (m.2 96) v1 (m.1 28))]) 28 96 (m.2 96) rfl rfl rfl q1 rfl rfl ?_
  refine P_gf 32 (.ref 213) rfl rfl rfl rfl rfl rfl ?_
  refine P_ld 33 (.int (i32 v1)) rfl (fun _ => rfl) ?_
  refine P_gf 37 (.int (i32 (m.1 69))) rfl rfl rfl rfl rfl rfl ?_
  refine P_iast2 (a' := [(43, upI (m.2 43) v1 (m.1 69)), (96, upI (m.2 96) v1 (m.1 28))]) 38 43 (m.2 43) rfl rfl rfl q1 rfl rfl ?_
  refine P_ld 39 (.ref 189) rfl (fun _ => rfl) ?_
  refine P_ld 41 (.int (i32 123)) rfl (fun _ => rfl) ?_
  refine P_ca0 44 232 [.ref 189, .int (i32 123)] [] rfl (fun _ => rfl) rfl (D_need w (mO m [] [(43, upI (m.2 43) v1 (m.1 69)), (96, upI (m.2 96) v1 (m.1 28))]) c N D (Cn_mO hm trivial ⟨(rE_ui (Cn_a hm 43) rfl (Cn_i hm 69 rfl)), (rE_ui (Cn_a hm 96) rfl (Cn_i hm 28 rfl)), trivial⟩) 123 (l32 123 rfl)) (fun y23 n25 => ?_)
  refine P_bnd ?_
  refine P_whl (fun bb Q2 H1 H2 s9 j9 hs9 => dh_takeSelect_44 w c N D v1 q1 bb Q2 H1 H2 s9 j9 hs9) bb (fun e26 j q27 => ?_) y23.2 (jk []) n25
  have q28 := q27
  show PP bb w D pm_243 (67, [(0, .ref 189), (1, .int (i32 v1))], [], (mhp (mO e26 [] []) c, N), 0, 0) (QS _ (rfl_takeSelect_67 v1 e26))
  exact dg_takeSelect_67 w c N D bb v1 q1 e26 q28 (jk [])
def rfl_takeSelect_4 (v1 : Int) (m : mR) : Option (Int × mR) :=
  bnd (rf_readExpr (mO m [] [(95, upI (m.2 95) v1 (m.1 28))])) fun y29 =>
  rfl_takeSelect_18 v1 y29.2
theorem dg_takeSelect_4 (w : wX) (c : Nat → Option am_C) (N D : Nat) (bb : Nat) (v1 : Int) (q1 : R32 v1) (m : mR) (hm : Cn m) (j : Nat → Int) : PP bb w D pm_243 (4, [(0, .ref 189), (1, .int (i32 v1))], [], (mhp m c, N), 0, 0) (QS (FR0 c N) (rfl_takeSelect_4 v1 m)) := by
  unfold rfl_takeSelect_4
  show PP bb w D pm_243 (4, [(0, .ref 189), (1, .int (i32 v1))], [], (mhp (mO m [] []) c, N), 0, 0) _
  refine P_gf 8 (.ref 257) rfl rfl rfl rfl rfl rfl ?_
  refine P_ld 9 (.int (i32 v1)) rfl (fun _ => rfl) ?_
  refine P_gf 13 (.int (i32 (m.1 28))) rfl rfl rfl rfl rfl rfl ?_
  refine P_iast2 (a' := [(95, upI (m.2 95) v1 (m.1 28))]) 14 95 (m.2 95) rfl rfl rfl q1 rfl rfl ?_
  refine P_ld 15 (.ref 189) rfl (fun _ => rfl) ?_
  refine P_ca0 18 244 [.ref 189] [] rfl (fun _ => rfl) rfl (D_readExpr w (mO m [] [(95, upI (m.2 95) v1 (m.1 28))]) c N D (Cn_mO hm trivial ⟨(rE_ui (Cn_a hm 95) rfl (Cn_i hm 28 rfl)), trivial⟩)) (fun y29 n31 => ?_)
  exact dg_takeSelect_18 w c N D bb v1 q1 y29.2 n31 (jk [])
def rf_takeSelect (v1 : Int) (m : mR) : Option (Int × mR) :=
  bnd (rf_next m) fun y32 =>
  rfl_takeSelect_4 v1 y32.2
theorem D_takeSelect (w : wX) (m : mR) (c : Nat → Option am_C) (N D : Nat) (hm : Cn m) (v1 : Int) (q1 : R32 v1) : PC w D 243 [.ref 189, .int (i32 v1)] (mhp m c, N) (QS (FR0 c N) (rf_takeSelect v1 m)) := by
  refine Pc_of (fun D bb => ?_) D
  unfold rf_takeSelect
  show PP bb w D pm_243 (0, [(0, .ref 189), (1, .int (i32 v1))], [], (mhp (mO m [] []) c, N), 0, 0) _
  refine P_ld 1 (.ref 189) rfl (fun _ => rfl) ?_
  refine P_ca0 4 212 [.ref 189] [] rfl (fun _ => rfl) rfl (D_next w m c N D hm) (fun y32 n34 => ?_)
  exact dg_takeSelect_4 w c N D bb v1 q1 y32.2 n34 (jk [])
end X26G
