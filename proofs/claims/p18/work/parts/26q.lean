noncomputable section X26Q
def cs_lay_67 (s : Int × mR) : Prop := R32 s.1 ∧ Cn s.2
def cx_lay_67 : (mR) → Prop := (fun (e : mR) => Cn e)
def hd_lay_67 (c : Nat → Option am_C) (N : Nat) (v1 : Int) (v2 : Int) (v3 : Int) (s : Int × mR) (j : Nat → Int) : ag_St af_T := (67, [(0, .ref 189), (1, .int (i32 v1)), (2, .int (i32 v2)), (3, .int (i32 v3)), (4, .int (i32 s.1))], [], (mhp s.2 c, N), 0, 0)
def ex_lay_67 (c : Nat → Option am_C) (N : Nat) (v1 : Int) (v2 : Int) (v3 : Int) : (mR) → (Nat → Int) → ag_St af_T := (fun (e : mR) (j : Nat → Int) => ((104, [(0, .ref 189), (1, .int (i32 v1)), (2, .int (i32 v2)), (3, .int (i32 v3)), (4, .int (i32 (j 4)))], [], (mhp e c, N), 0, 0) : ag_St af_T))
def cs_lay_112 (s : Int × mR) : Prop := R32 s.1 ∧ Cn s.2
def cx_lay_112 : (Sum (Int × mR) (mR)) → Prop := (sel (fun (e : Int × mR) => R32 e.1 ∧ Cn e.2) (fun (e : mR) => Cn e))
def hd_lay_112 (c : Nat → Option am_C) (N : Nat) (v1 : Int) (v2 : Int) (v3 : Int) (s : Int × mR) (j : Nat → Int) : ag_St af_T := (112, [(0, .ref 189), (1, .int (i32 v1)), (2, .int (i32 v2)), (3, .int (i32 v3)), (4, .int (i32 s.1)), (5, .int (i32 (j 5)))], [], (mhp s.2 c, N), 0, 0)
def ex_lay_112 (c : Nat → Option am_C) (N : Nat) (v1 : Int) (v2 : Int) (v3 : Int) : (Sum (Int × mR) (mR)) → (Nat → Int) → ag_St af_T := (sel (fun (e : Int × mR) (j : Nat → Int) => ((139, [(0, .ref 189), (1, .int (i32 (j 1))), (2, .int (i32 (j 2))), (3, .int (i32 (j 3))), (4, .int (i32 e.1)), (5, .int (i32 (j 5)))], [], (mhp e.2 c, N), 0, 0) : ag_St af_T)) (fun (e : mR) (j : Nat → Int) => ((236, [(0, .ref 189), (1, .int (i32 (j 1))), (2, .int (i32 (j 2))), (3, .int (i32 (j 3))), (4, .int (i32 (j 4))), (5, .int (i32 (j 5)))], [], (mhp e c, N), 0, 0) : ag_St af_T)))
def rfl_lay_236 (m : mR) : Option (Int × mR) :=
  some (m.1 129, (mO m [(128, 1)] []))
theorem dg_lay_236 (w : wX) (c : Nat → Option am_C) (N D : Nat) (bb : Nat) (m : mR) (hm : Cn m) (j : Nat → Int) : PP bb w D pm_289 (236, [(0, .ref 189), (1, .int (i32 (j 1))), (2, .int (i32 (j 2))), (3, .int (i32 (j 3))), (4, .int (i32 (j 4))), (5, .int (i32 (j 5)))], [], (mhp m c, N), 0, 0) (QS (FR1 c N) (rfl_lay_236 m)) := by
  unfold rfl_lay_236
  show PP bb w D pm_289 (236, [(0, .ref 189), (1, .int (i32 (j 1))), (2, .int (i32 (j 2))), (3, .int (i32 (j 3))), (4, .int (i32 (j 4))), (5, .int (i32 (j 5)))], [], (mhp (mO m [] []) c, N), 0, 0) _
  refine P_ld 237 (.ref 189) rfl (fun _ => rfl) ?_
  refine P_ld 238 (.int (i32 1)) rfl (fun _ => rfl) ?_
  refine P_pf (l' := [(128, 1)]) 241 1 rfl rfl rfl rfl rfl rfl ?_
  refine P_gf 245 (.int (i32 (m.1 129))) rfl rfl rfl rfl rfl rfl ?_
  exact P_re1 rfl (Cn_i hm 129 rfl) (Cn_mO hm ⟨(rV_i rfl (l32 1 rfl)), trivial⟩ trivial)
def rfl_lay_227 (v1 : Int) (v2 : Int) (v3 : Int) (v4 : Int) (u1 : Int) (m : mR) : Option (Sum (Int × mR) (Sum (Int × mR) (mR))) :=
  some (.inl (cut (v4 + 1), (mO m [(129, u1)] [])))
theorem dg_lay_227 (w : wX) (c : Nat → Option am_C) (N D : Nat) (bb : Nat) (v1 : Int) (v2 : Int) (v3 : Int) (v4 : Int) (u1 : Int) (q1 : R32 v1) (q2 : R32 v2) (q3 : R32 v3) (q4 : R32 v4) (r1 : R32 u1) (m : mR) (hm : Cn m) (j : Nat → Int) (Q2 : Sum (Int × mR) (Sum (Int × mR) (mR)) → ag_Re af_T → Prop) (H1 : ∀ s j, cs_lay_112 s → PP bb w D pm_289 (hd_lay_112 c N v1 v2 v3 s j) (Q2 (.inl s))) (H2 : ∀ x j, cx_lay_112 x → PP bb w D pm_289 (ex_lay_112 c N v1 v2 v3 x j) (Q2 (.inr x))) : PP bb w D pm_289 (227, [(0, .ref 189), (1, .int (i32 v1)), (2, .int (i32 v2)), (3, .int (i32 v3)), (4, .int (i32 v4)), (5, .int (i32 (j 5)))], [.int (i32 u1), .ref 189], (mhp m c, N), 0, 0) (QS Q2 (rfl_lay_227 v1 v2 v3 v4 u1 m)) := by
  unfold rfl_lay_227
  show PP bb w D pm_289 (227, [(0, .ref 189), (1, .int (i32 v1)), (2, .int (i32 v2)), (3, .int (i32 v3)), (4, .int (i32 v4)), (5, .int (i32 (j 5)))], [.int (i32 u1), .ref 189], (mhp (mO m [] []) c, N), 0, 0) _
  refine P_pf (l' := [(129, u1)]) 230 u1 rfl rfl rfl rfl rfl rfl ?_
  refine P_inc 233 [(4, .int (i32 (cut (v4 + 1)))), (0, .ref 189), (1, .int (i32 v1)), (2, .int (i32 v2)), (3, .int (i32 v3)), (5, .int (i32 (j 5)))] rfl rfl (by decide) rfl rfl ?_
  refine P_goto 112 rfl (fun _ => rfl) ?_
  refine P_some ?_
  refine P_lv (b := [(0, .ref 189), (1, .int (i32 v1)), (2, .int (i32 v2)), (3, .int (i32 v3)), (4, .int (i32 (cut (v4 + 1)))), (5, .int (i32 (j 5)))]) rfl rfl ⟨rfl, rfl, rfl, rfl, rfl, rfl, trivial⟩ ?_
  exact H1 (cut (v4 + 1), (mO m [(129, u1)] [])) (jk [(5, j 5)]) ⟨cut_r, (Cn_mO hm ⟨(rV_i rfl r1), trivial⟩ trivial)⟩
def rfl_lay_139 (v4 : Int) (m : mR) : Option (Int × mR) :=
  some (0, (mO m [(1, 3), (130, v4)] []))
theorem dg_lay_139 (w : wX) (c : Nat → Option am_C) (N D : Nat) (bb : Nat) (v4 : Int) (q4 : R32 v4) (m : mR) (hm : Cn m) (j : Nat → Int) : PP bb w D pm_289 (139, [(0, .ref 189), (1, .int (i32 (j 1))), (2, .int (i32 (j 2))), (3, .int (i32 (j 3))), (4, .int (i32 v4)), (5, .int (i32 (j 5)))], [], (mhp m c, N), 0, 0) (QS (FR1 c N) (rfl_lay_139 v4 m)) := by
  unfold rfl_lay_139
  show PP bb w D pm_289 (139, [(0, .ref 189), (1, .int (i32 (j 1))), (2, .int (i32 (j 2))), (3, .int (i32 (j 3))), (4, .int (i32 v4)), (5, .int (i32 (j 5)))], [], (mhp (mO m [] []) c, N), 0, 0) _
  refine P_ld 140 (.ref 189) rfl (fun _ => rfl) ?_
  refine P_ld 142 (.int (i32 v4)) rfl (fun _ => rfl) ?_
  refine P_pf (l' := [(130, v4)]) 145 v4 rfl rfl rfl rfl rfl rfl ?_
  refine P_ld 146 (.ref 189) rfl (fun _ => rfl) ?_
  refine P_ld 147 (.int (i32 3)) rfl (fun _ => rfl) ?_
  refine P_pf (l' := [(1, 3), (130, v4)]) 150 3 rfl rfl rfl rfl rfl rfl ?_
  refine P_ld 151 (.int (i32 0)) rfl (fun _ => rfl) ?_
  exact P_re1 rfl (l32 0 rfl) (Cn_mO hm ⟨(rV_i rfl (l32 3 rfl)), (rV_i rfl q4), trivial⟩ trivial)
def rfb_lay_112 (v1 : Int) (v2 : Int) (v3 : Int) (s : Int × mR) : Option (Sum (Int × mR) (Sum (Int × mR) (mR))) :=
  if s.2.1 27 ≤ s.1 then
    some (.inr (.inr s.2))
  else
    bnd (rf_stageFor s.1 v1 v2 v3 s.2) fun y9 =>
    if (0 : Int) ≤ y9 then
      bnd (rf_memoryOf s.1 (mO s.2 [] [(131, upI (s.2.2 131) s.1 y9), (132, upI (s.2.2 132) y9 (cut (((s.2.2 132) y9) + 1)))])) fun y12 =>
      bnd (rf_wiresOf s.1 (mO s.2 [] [(131, upI (s.2.2 131) s.1 y9), (132, upI (s.2.2 132) y9 (cut (((s.2.2 132) y9) + 1))), (133, upI (s.2.2 133) y9 (cutl (((s.2.2 133) y9) + y12)))])) fun y14 =>
      if cut (y9 + 1) ≤ s.2.1 129 then
        rfl_lay_227 v1 v2 v3 s.1 (s.2.1 129) (mO s.2 [] [(131, upI (s.2.2 131) s.1 y9), (132, upI (s.2.2 132) y9 (cut (((s.2.2 132) y9) + 1))), (133, upI (s.2.2 133) y9 (cutl (((s.2.2 133) y9) + y12))), (134, upI (s.2.2 134) y9 (cutl (((s.2.2 134) y9) + y14)))])
      else
        rfl_lay_227 v1 v2 v3 s.1 (cut (y9 + 1)) (mO s.2 [] [(131, upI (s.2.2 131) s.1 y9), (132, upI (s.2.2 132) y9 (cut (((s.2.2 132) y9) + 1))), (133, upI (s.2.2 133) y9 (cutl (((s.2.2 133) y9) + y12))), (134, upI (s.2.2 134) y9 (cutl (((s.2.2 134) y9) + y14)))])
    else
      some (.inr (.inl (s.1, s.2)))
theorem dh_lay_112 (w : wX) (c : Nat → Option am_C) (N D : Nat) (v1 : Int) (v2 : Int) (v3 : Int) (q1 : R32 v1) (q2 : R32 v2) (q3 : R32 v3) (bb : Nat) (Q2 : Sum (Int × mR) (Sum (Int × mR) (mR)) → ag_Re af_T → Prop) (H1 : ∀ s j, cs_lay_112 s → PP bb w D pm_289 (hd_lay_112 c N v1 v2 v3 s j) (Q2 (.inl s))) (H2 : ∀ x j, cx_lay_112 x → PP bb w D pm_289 (ex_lay_112 c N v1 v2 v3 x j) (Q2 (.inr x))) (s : Int × mR) (j : Nat → Int) (hs : cs_lay_112 s) : PP (bb + 1) w D pm_289 (hd_lay_112 c N v1 v2 v3 s j) (QS Q2 (rfb_lay_112 v1 v2 v3 s)) := by
  obtain ⟨g4, gm⟩ := hs
  unfold rfb_lay_112
  show PP (bb + 1) w D pm_289 (112, [(0, .ref 189), (1, .int (i32 v1)), (2, .int (i32 v2)), (3, .int (i32 v3)), (4, .int (i32 s.1)), (5, .int (i32 (j 5)))], [], (mhp (mO s.2 [] []) c, N), 0, 0) _
  refine P1_ld 114 (.int (i32 s.1)) rfl (fun _ => rfl) ?_
  refine P_gf 118 (.int (i32 (s.2.1 27))) rfl rfl rfl rfl rfl rfl ?_
  refine P_icF 236 121 rfl rfl rfl g4 (Cn_i gm 27 rfl) rfl (fun h8 => ?_) (fun h8 => ?_)
  · skip
    refine P_some ?_
    exact H2 (.inr s.2) (jk [(1, v1), (2, v2), (3, v3), (4, s.1), (5, j 5)]) gm
  · skip
    refine P_ld 122 (.ref 189) rfl (fun _ => rfl) ?_
    refine P_ld 124 (.int (i32 s.1)) rfl (fun _ => rfl) ?_
    refine P_ld 125 (.int (i32 v1)) rfl (fun _ => rfl) ?_
    refine P_ld 126 (.int (i32 v2)) rfl (fun _ => rfl) ?_
    refine P_opl 127 v2 _ rfl (fun _ => rfl) (o_i2l q2) ?_
    refine P_ld 128 (.int (i32 v3)) rfl (fun _ => rfl) ?_
    refine P_opl 129 v3 _ rfl (fun _ => rfl) (o_i2l q3) ?_
    refine P_cp1 132 295 [.ref 189, .int (i32 s.1), .int (i32 v1), .long (i64 v2), .long (i64 v3)] [] rfl (fun _ => rfl) rfl (D_stageFor w s.2 c N D gm s.1 v1 v2 v3 g4 q1 (R32_64 q2) (R32_64 q3)) (fun y9 h10 => ?_)
    refine P_sto 134 [(5, .int (i32 y9)), (0, .ref 189), (1, .int (i32 v1)), (2, .int (i32 v2)), (3, .int (i32 v3)), (4, .int (i32 s.1))] rfl (fun _ => rfl) ?_
    refine P_ld 136 (.int (i32 y9)) rfl (fun _ => rfl) ?_
    refine P_ifF 152 139 rfl rfl rfl h10 rfl (fun h11 => ?_) (fun h11 => ?_)
    · skip
      refine P_gf 156 (.ref 285) rfl rfl rfl rfl rfl rfl ?_
      refine P_ld 158 (.int (i32 s.1)) rfl (fun _ => rfl) ?_
      refine P_ld 160 (.int (i32 y9)) rfl (fun _ => rfl) ?_
      refine P_iast2 (a' := [(131, upI (s.2.2 131) s.1 y9)]) 161 131 (s.2.2 131) rfl rfl rfl g4 rfl rfl ?_
      refine P_gf 165 (.ref 286) rfl rfl rfl rfl rfl rfl ?_
      refine P_ld 167 (.int (i32 y9)) rfl (fun _ => rfl) ?_
      refine P_dup2 168 rfl (fun _ => rfl) ?_
      refine P_iald2 169 132 (s.2.2 132) rfl rfl rfl h10 rfl ?_
      refine P_ld 170 (.int (i32 1)) rfl (fun _ => rfl) ?_
      refine P_op 171 (cut (((s.2.2 132) y9) + 1)) _ rfl (fun _ => rfl) o_add ?_
      refine P_iast2 (a' := [(131, upI (s.2.2 131) s.1 y9), (132, upI (s.2.2 132) y9 (cut (((s.2.2 132) y9) + 1)))]) 172 132 (s.2.2 132) rfl rfl rfl h10 rfl rfl ?_
      refine P_gf 176 (.ref 287) rfl rfl rfl rfl rfl rfl ?_
      refine P_ld 178 (.int (i32 y9)) rfl (fun _ => rfl) ?_
      refine P_dup2 179 rfl (fun _ => rfl) ?_
      refine P_lald2 180 133 (s.2.2 133) rfl rfl rfl h10 rfl ?_
      refine P_ld 181 (.ref 189) rfl (fun _ => rfl) ?_
      refine P_ld 183 (.int (i32 s.1)) rfl (fun _ => rfl) ?_
      refine P_cp2 186 300 [.ref 189, .int (i32 s.1)] [.long (i64 ((s.2.2 133) y9)), .int (i32 y9), .ref 287] rfl (fun _ => rfl) rfl (D_memoryOf w (mO s.2 [] [(131, upI (s.2.2 131) s.1 y9), (132, upI (s.2.2 132) y9 (cut (((s.2.2 132) y9) + 1)))]) c N D (Cn_mO gm trivial ⟨(rE_ui (Cn_a gm 131) rfl h10), (rE_ui (Cn_a gm 132) rfl cut_r), trivial⟩) s.1 g4) (fun y12 h13 => ?_)
      refine P_opl 187 (cutl (((s.2.2 133) y9) + y12)) _ rfl (fun _ => rfl) p_add ?_
      refine P_last2 (a' := [(131, upI (s.2.2 131) s.1 y9), (132, upI (s.2.2 132) y9 (cut (((s.2.2 132) y9) + 1))), (133, upI (s.2.2 133) y9 (cutl (((s.2.2 133) y9) + y12)))]) 188 133 (s.2.2 133) rfl rfl rfl h10 rfl rfl ?_
      refine P_gf 192 (.ref 288) rfl rfl rfl rfl rfl rfl ?_
      refine P_ld 194 (.int (i32 y9)) rfl (fun _ => rfl) ?_
      refine P_dup2 195 rfl (fun _ => rfl) ?_
      refine P_lald2 196 134 (s.2.2 134) rfl rfl rfl h10 rfl ?_
      refine P_ld 197 (.ref 189) rfl (fun _ => rfl) ?_
      refine P_ld 199 (.int (i32 s.1)) rfl (fun _ => rfl) ?_
      refine P_cp2 202 302 [.ref 189, .int (i32 s.1)] [.long (i64 ((s.2.2 134) y9)), .int (i32 y9), .ref 288] rfl (fun _ => rfl) rfl (D_wiresOf w (mO s.2 [] [(131, upI (s.2.2 131) s.1 y9), (132, upI (s.2.2 132) y9 (cut (((s.2.2 132) y9) + 1))), (133, upI (s.2.2 133) y9 (cutl (((s.2.2 133) y9) + y12)))]) c N D (Cn_mO gm trivial ⟨(rE_ui (Cn_a gm 131) rfl h10), (rE_ui (Cn_a gm 132) rfl cut_r), (rE_ul (Cn_a gm 133) rfl cutl_r), trivial⟩) s.1 g4) (fun y14 h15 => ?_)
      refine P_opl 203 (cutl (((s.2.2 134) y9) + y14)) _ rfl (fun _ => rfl) p_add ?_
      refine P_last2 (a' := [(131, upI (s.2.2 131) s.1 y9), (132, upI (s.2.2 132) y9 (cut (((s.2.2 132) y9) + 1))), (133, upI (s.2.2 133) y9 (cutl (((s.2.2 133) y9) + y12))), (134, upI (s.2.2 134) y9 (cutl (((s.2.2 134) y9) + y14)))]) 204 134 (s.2.2 134) rfl rfl rfl h10 rfl rfl ?_
      refine P_ld 205 (.ref 189) rfl (fun _ => rfl) ?_
      refine P_ld 207 (.int (i32 y9)) rfl (fun _ => rfl) ?_
      refine P_ld 208 (.int (i32 1)) rfl (fun _ => rfl) ?_
      refine P_op 209 (cut (y9 + 1)) _ rfl (fun _ => rfl) o_add ?_
      refine P_gf 213 (.int (i32 (s.2.1 129))) rfl rfl rfl rfl rfl rfl ?_
      refine P_icF 223 216 rfl rfl rfl cut_r (Cn_i gm 129 rfl) rfl (fun h16 => ?_) (fun h16 => ?_)
      · skip
        refine P_gf 227 (.int (i32 (s.2.1 129))) rfl rfl rfl rfl rfl rfl ?_
        refine P_lv (b := [(0, .ref 189), (1, .int (i32 v1)), (2, .int (i32 v2)), (3, .int (i32 v3)), (4, .int (i32 s.1)), (5, .int (i32 y9))]) rfl rfl ⟨rfl, rfl, rfl, rfl, rfl, rfl, trivial⟩ ?_
        exact dg_lay_227 w c N D bb v1 v2 v3 s.1 (s.2.1 129) q1 q2 q3 g4 (Cn_i gm 129 rfl) (mO s.2 [] [(131, upI (s.2.2 131) s.1 y9), (132, upI (s.2.2 132) y9 (cut (((s.2.2 132) y9) + 1))), (133, upI (s.2.2 133) y9 (cutl (((s.2.2 133) y9) + y12))), (134, upI (s.2.2 134) y9 (cutl (((s.2.2 134) y9) + y14)))]) (Cn_mO gm trivial ⟨(rE_ui (Cn_a gm 131) rfl h10), (rE_ui (Cn_a gm 132) rfl cut_r), (rE_ul (Cn_a gm 133) rfl cutl_r), (rE_ul (Cn_a gm 134) rfl cutl_r), trivial⟩) (jk [(5, y9)]) Q2 H1 H2
      · skip
        refine P_ld 218 (.int (i32 y9)) rfl (fun _ => rfl) ?_
        refine P_ld 219 (.int (i32 1)) rfl (fun _ => rfl) ?_
        refine P_op 220 (cut (y9 + 1)) _ rfl (fun _ => rfl) o_add ?_
        refine P_goto 227 rfl (fun _ => rfl) ?_
        refine P_lv (b := [(0, .ref 189), (1, .int (i32 v1)), (2, .int (i32 v2)), (3, .int (i32 v3)), (4, .int (i32 s.1)), (5, .int (i32 y9))]) rfl rfl ⟨rfl, rfl, rfl, rfl, rfl, rfl, trivial⟩ ?_
        exact dg_lay_227 w c N D bb v1 v2 v3 s.1 (cut (y9 + 1)) q1 q2 q3 g4 cut_r (mO s.2 [] [(131, upI (s.2.2 131) s.1 y9), (132, upI (s.2.2 132) y9 (cut (((s.2.2 132) y9) + 1))), (133, upI (s.2.2 133) y9 (cutl (((s.2.2 133) y9) + y12))), (134, upI (s.2.2 134) y9 (cutl (((s.2.2 134) y9) + y14)))]) (Cn_mO gm trivial ⟨(rE_ui (Cn_a gm 131) rfl h10), (rE_ui (Cn_a gm 132) rfl cut_r), (rE_ul (Cn_a gm 133) rfl cutl_r), (rE_ul (Cn_a gm 134) rfl cutl_r), trivial⟩) (jk [(5, y9)]) Q2 H1 H2
    · skip
      refine P_some ?_
      refine P_lv (b := [(0, .ref 189), (1, .int (i32 v1)), (2, .int (i32 v2)), (3, .int (i32 v3)), (4, .int (i32 s.1)), (5, .int (i32 y9))]) rfl rfl ⟨rfl, rfl, rfl, rfl, rfl, rfl, trivial⟩ ?_
      exact H2 (.inl (s.1, s.2)) (jk [(1, v1), (2, v2), (3, v3), (5, y9)]) ⟨g4, gm⟩
def rfl_lay_104 (v1 : Int) (v2 : Int) (v3 : Int) (m : mR) : Option (Int × mR) :=
  bnd (whl (rfb_lay_112 v1 v2 v3) (0, (mO m [(129, 1)] []))) (sel
    (fun e17 : Int × mR =>
      rfl_lay_139 e17.1 e17.2)
    (fun e21 : mR =>
      rfl_lay_236 e21))
theorem dg_lay_104 (w : wX) (c : Nat → Option am_C) (N D : Nat) (bb : Nat) (v1 : Int) (v2 : Int) (v3 : Int) (q1 : R32 v1) (q2 : R32 v2) (q3 : R32 v3) (m : mR) (hm : Cn m) (j : Nat → Int) : PP bb w D pm_289 (104, [(0, .ref 189), (1, .int (i32 v1)), (2, .int (i32 v2)), (3, .int (i32 v3)), (4, .int (i32 (j 4)))], [], (mhp m c, N), 0, 0) (QS (FR1 c N) (rfl_lay_104 v1 v2 v3 m)) := by
  unfold rfl_lay_104
  show PP bb w D pm_289 (104, [(0, .ref 189), (1, .int (i32 v1)), (2, .int (i32 v2)), (3, .int (i32 v3)), (4, .int (i32 (j 4)))], [], (mhp (mO m [] []) c, N), 0, 0) _
  refine P_ld 105 (.ref 189) rfl (fun _ => rfl) ?_
  refine P_ld 106 (.int (i32 1)) rfl (fun _ => rfl) ?_
  refine P_pf (l' := [(129, 1)]) 109 1 rfl rfl rfl rfl rfl rfl ?_
  refine P_ld 110 (.int (i32 0)) rfl (fun _ => rfl) ?_
  refine P_sto 112 [(4, .int (i32 0)), (0, .ref 189), (1, .int (i32 v1)), (2, .int (i32 v2)), (3, .int (i32 v3))] rfl (fun _ => rfl) ?_
  refine P_lv (b := [(0, .ref 189), (1, .int (i32 v1)), (2, .int (i32 v2)), (3, .int (i32 v3)), (4, .int (i32 0)), (5, .int (i32 0))]) rfl rfl ⟨rfl, rfl, rfl, rfl, rfl, trivial⟩ ?_
  refine P_bnd ?_
  refine P_whl (fun bb Q2 H1 H2 s9 j9 hs9 => dh_lay_112 w c N D v1 v2 v3 q1 q2 q3 bb Q2 H1 H2 s9 j9 hs9) bb (fun x0 j hx0 => ?_) (0, (mO m [(129, 1)] [])) (jk []) ⟨(l32 0 rfl), (Cn_mO hm ⟨(rV_i rfl (l32 1 rfl)), trivial⟩ trivial)⟩
  cases x0 with
  | inl e17 =>
    have q18 := hx0
    obtain ⟨q19, q20⟩ := q18
    show PP bb w D pm_289 (139, [(0, .ref 189), (1, .int (i32 (j 1))), (2, .int (i32 (j 2))), (3, .int (i32 (j 3))), (4, .int (i32 e17.1)), (5, .int (i32 (j 5)))], [], (mhp (mO e17.2 [] []) c, N), 0, 0) (QS _ (rfl_lay_139 e17.1 e17.2))
    exact dg_lay_139 w c N D bb e17.1 q19 e17.2 q20 (jk [(1, j 1), (2, j 2), (3, j 3), (5, j 5)])
  | inr e21 =>
    have q22 := hx0
    have q23 := q22
    show PP bb w D pm_289 (236, [(0, .ref 189), (1, .int (i32 (j 1))), (2, .int (i32 (j 2))), (3, .int (i32 (j 3))), (4, .int (i32 (j 4))), (5, .int (i32 (j 5)))], [], (mhp (mO e21 [] []) c, N), 0, 0) (QS _ (rfl_lay_236 e21))
    exact dg_lay_236 w c N D bb e21 q23 (jk [(1, j 1), (2, j 2), (3, j 3), (4, j 4), (5, j 5)])
def rfb_lay_67 (v1 : Int) (v2 : Int) (v3 : Int) (s : Int × mR) : Option (Sum (Int × mR) (mR)) :=
  if (12 : Int) ≤ s.1 then
    some (.inr s.2)
  else
    some (.inl (cut (s.1 + 1), (mO s.2 [] [(132, upI (s.2.2 132) s.1 0), (133, upI (s.2.2 133) s.1 0), (134, upI (s.2.2 134) s.1 0)])))
theorem dh_lay_67 (w : wX) (c : Nat → Option am_C) (N D : Nat) (v1 : Int) (v2 : Int) (v3 : Int) (q1 : R32 v1) (q2 : R32 v2) (q3 : R32 v3) (bb : Nat) (Q2 : Sum (Int × mR) (mR) → ag_Re af_T → Prop) (H1 : ∀ s j, cs_lay_67 s → PP bb w D pm_289 (hd_lay_67 c N v1 v2 v3 s j) (Q2 (.inl s))) (H2 : ∀ x j, cx_lay_67 x → PP bb w D pm_289 (ex_lay_67 c N v1 v2 v3 x j) (Q2 (.inr x))) (s : Int × mR) (j : Nat → Int) (hs : cs_lay_67 s) : PP (bb + 1) w D pm_289 (hd_lay_67 c N v1 v2 v3 s j) (QS Q2 (rfb_lay_67 v1 v2 v3 s)) := by
  obtain ⟨g4, gm⟩ := hs
  unfold rfb_lay_67
  show PP (bb + 1) w D pm_289 (67, [(0, .ref 189), (1, .int (i32 v1)), (2, .int (i32 v2)), (3, .int (i32 v3)), (4, .int (i32 s.1))], [], (mhp (mO s.2 [] []) c, N), 0, 0) _
  refine P1_ld 69 (.int (i32 s.1)) rfl (fun _ => rfl) ?_
  refine P_ld 71 (.int (i32 12)) rfl (fun _ => rfl) ?_
  refine P_icF 104 74 rfl rfl rfl g4 (l32 12 rfl) rfl (fun h25 => ?_) (fun h25 => ?_)
  · skip
    refine P_some ?_
    exact H2 s.2 (jk [(4, s.1)]) gm
  · skip
    refine P_gf 78 (.ref 286) rfl rfl rfl rfl rfl rfl ?_
    refine P_ld 80 (.int (i32 s.1)) rfl (fun _ => rfl) ?_
    refine P_ld 81 (.int (i32 0)) rfl (fun _ => rfl) ?_
    refine P_iast2 (a' := [(132, upI (s.2.2 132) s.1 0)]) 82 132 (s.2.2 132) rfl rfl rfl g4 rfl rfl ?_
    refine P_gf 86 (.ref 287) rfl rfl rfl rfl rfl rfl ?_
    refine P_ld 88 (.int (i32 s.1)) rfl (fun _ => rfl) ?_
    refine P_ld 89 (.long (i64 0)) rfl (fun _ => rfl) ?_
    refine P_last2 (a' := [(132, upI (s.2.2 132) s.1 0), (133, upI (s.2.2 133) s.1 0)]) 90 133 (s.2.2 133) rfl rfl rfl g4 rfl rfl ?_
    refine P_gf 94 (.ref 288) rfl rfl rfl rfl rfl rfl ?_
    refine P_ld 96 (.int (i32 s.1)) rfl (fun _ => rfl) ?_
    refine P_ld 97 (.long (i64 0)) rfl (fun _ => rfl) ?_
    refine P_last2 (a' := [(132, upI (s.2.2 132) s.1 0), (133, upI (s.2.2 133) s.1 0), (134, upI (s.2.2 134) s.1 0)]) 98 134 (s.2.2 134) rfl rfl rfl g4 rfl rfl ?_
    refine P_inc 101 [(4, .int (i32 (cut (s.1 + 1)))), (0, .ref 189), (1, .int (i32 v1)), (2, .int (i32 v2)), (3, .int (i32 v3))] rfl rfl (by decide) rfl rfl ?_
    refine P_goto 67 rfl (fun _ => rfl) ?_
    refine P_some ?_
    refine P_lv (b := [(0, .ref 189), (1, .int (i32 v1)), (2, .int (i32 v2)), (3, .int (i32 v3)), (4, .int (i32 (cut (s.1 + 1))))]) rfl rfl ⟨rfl, rfl, rfl, rfl, rfl, trivial⟩ ?_
    exact H1 (cut (s.1 + 1), (mO s.2 [] [(132, upI (s.2.2 132) s.1 0), (133, upI (s.2.2 133) s.1 0), (134, upI (s.2.2 134) s.1 0)])) (jk []) ⟨cut_r, (Cn_mO gm trivial ⟨(rE_ui (Cn_a gm 132) rfl (l32 0 rfl)), (rE_ul (Cn_a gm 133) rfl (l64 0 rfl)), (rE_ul (Cn_a gm 134) rfl (l64 0 rfl)), trivial⟩)⟩
def rfl_lay_64 (v1 : Int) (v2 : Int) (v3 : Int) (m : mR) : Option (Int × mR) :=
  bnd (whl (rfb_lay_67 v1 v2 v3) (0, m)) (fun e26 : mR =>
    rfl_lay_104 v1 v2 v3 e26)
theorem dg_lay_64 (w : wX) (c : Nat → Option am_C) (N D : Nat) (bb : Nat) (v1 : Int) (v2 : Int) (v3 : Int) (q1 : R32 v1) (q2 : R32 v2) (q3 : R32 v3) (m : mR) (hm : Cn m) (j : Nat → Int) : PP bb w D pm_289 (64, [(0, .ref 189), (1, .int (i32 v1)), (2, .int (i32 v2)), (3, .int (i32 v3))], [], (mhp m c, N), 0, 0) (QS (FR1 c N) (rfl_lay_64 v1 v2 v3 m)) := by
  unfold rfl_lay_64
  show PP bb w D pm_289 (64, [(0, .ref 189), (1, .int (i32 v1)), (2, .int (i32 v2)), (3, .int (i32 v3))], [], (mhp (mO m [] []) c, N), 0, 0) _
  refine P_ld 65 (.int (i32 0)) rfl (fun _ => rfl) ?_
  refine P_sto 67 [(4, .int (i32 0)), (0, .ref 189), (1, .int (i32 v1)), (2, .int (i32 v2)), (3, .int (i32 v3))] rfl (fun _ => rfl) ?_
  refine P_lv (b := [(0, .ref 189), (1, .int (i32 v1)), (2, .int (i32 v2)), (3, .int (i32 v3)), (4, .int (i32 0))]) rfl rfl ⟨rfl, rfl, rfl, rfl, rfl, trivial⟩ ?_
  refine P_bnd ?_
  refine P_whl (fun bb Q2 H1 H2 s9 j9 hs9 => dh_lay_67 w c N D v1 v2 v3 q1 q2 q3 bb Q2 H1 H2 s9 j9 hs9) bb (fun e26 j q27 => ?_) (0, m) (jk []) ⟨(l32 0 rfl), hm⟩
  have q28 := q27
  show PP bb w D pm_289 (104, [(0, .ref 189), (1, .int (i32 v1)), (2, .int (i32 v2)), (3, .int (i32 v3)), (4, .int (i32 (j 4)))], [], (mhp (mO e26 [] []) c, N), 0, 0) (QS _ (rfl_lay_104 v1 v2 v3 e26))
  exact dg_lay_104 w c N D bb v1 v2 v3 q1 q2 q3 e26 q28 (jk [(4, j 4)])
def rfl_lay_43 (v1 : Int) (v2 : Int) (v3 : Int) (u1 : Int) (m : mR) : Option (Int × mR) :=
  if u1 ≤ 0 then
    bnd (rf_touchesAll (mO m [(1, u1), (130, (-1))] [])) fun y30 =>
    rfl_lay_64 v1 v2 v3 y30.2
  else
    some (0, (mO m [(1, u1)] []))
theorem dg_lay_43 (w : wX) (c : Nat → Option am_C) (N D : Nat) (bb : Nat) (v1 : Int) (v2 : Int) (v3 : Int) (u1 : Int) (q1 : R32 v1) (q2 : R32 v2) (q3 : R32 v3) (r1 : R32 u1) (m : mR) (hm : Cn m) (j : Nat → Int) : PP bb w D pm_289 (43, [(0, .ref 189), (1, .int (i32 v1)), (2, .int (i32 v2)), (3, .int (i32 v3))], [.int (i32 u1), .ref 189], (mhp m c, N), 0, 0) (QS (FR1 c N) (rfl_lay_43 v1 v2 v3 u1 m)) := by
  unfold rfl_lay_43
  show PP bb w D pm_289 (43, [(0, .ref 189), (1, .int (i32 v1)), (2, .int (i32 v2)), (3, .int (i32 v3))], [.int (i32 u1), .ref 189], (mhp (mO m [] []) c, N), 0, 0) _
  refine P_pf (l' := [(1, u1)]) 46 u1 rfl rfl rfl rfl rfl rfl ?_
  refine P_gf 50 (.int (i32 u1)) rfl rfl rfl rfl rfl rfl ?_
  refine P_ifF 55 53 rfl rfl rfl r1 rfl (fun h29 => ?_) (fun h29 => ?_)
  · skip
    refine P_ld 56 (.ref 189) rfl (fun _ => rfl) ?_
    refine P_ld 57 (.int (i32 (-1))) rfl (fun _ => rfl) ?_
    refine P_pf (l' := [(1, u1), (130, (-1))]) 60 (-1) rfl rfl rfl rfl rfl rfl ?_
    refine P_ld 61 (.ref 189) rfl (fun _ => rfl) ?_
    refine P_ca0 64 290 [.ref 189] [] rfl (fun _ => rfl) rfl (D_touchesAll w (mO m [(1, u1), (130, (-1))] []) c N D (Cn_mO hm ⟨(rV_i rfl r1), (rV_i rfl (l32 (-1) rfl)), trivial⟩ trivial)) (fun y30 n32 => ?_)
    exact dg_lay_64 w c N D bb v1 v2 v3 q1 q2 q3 y30.2 n32 (jk [])
  · skip
    refine P_ld 54 (.int (i32 0)) rfl (fun _ => rfl) ?_
    exact P_re1 rfl (l32 0 rfl) (Cn_mO hm ⟨(rV_i rfl r1), trivial⟩ trivial)
def rfl_lay_38 (v1 : Int) (v2 : Int) (v3 : Int) (m : mR) : Option (Int × mR) :=
  rfl_lay_43 v1 v2 v3 2 m
theorem dg_lay_38 (w : wX) (c : Nat → Option am_C) (N D : Nat) (bb : Nat) (v1 : Int) (v2 : Int) (v3 : Int) (q1 : R32 v1) (q2 : R32 v2) (q3 : R32 v3) (m : mR) (hm : Cn m) (j : Nat → Int) : PP bb w D pm_289 (38, [(0, .ref 189), (1, .int (i32 v1)), (2, .int (i32 v2)), (3, .int (i32 v3))], [.ref 189], (mhp m c, N), 0, 0) (QS (FR1 c N) (rfl_lay_38 v1 v2 v3 m)) := by
  unfold rfl_lay_38
  show PP bb w D pm_289 (38, [(0, .ref 189), (1, .int (i32 v1)), (2, .int (i32 v2)), (3, .int (i32 v3))], [.ref 189], (mhp (mO m [] []) c, N), 0, 0) _
  refine P_ld 39 (.int (i32 2)) rfl (fun _ => rfl) ?_
  refine P_goto 43 rfl (fun _ => rfl) ?_
  exact dg_lay_43 w c N D bb v1 v2 v3 2 q1 q2 q3 (l32 2 rfl) m hm (jk [])
def rfl_lay_15 (v1 : Int) (v2 : Int) (v3 : Int) (m : mR) : Option (Int × mR) :=
  rfl_lay_43 v1 v2 v3 1 m
theorem dg_lay_15 (w : wX) (c : Nat → Option am_C) (N D : Nat) (bb : Nat) (v1 : Int) (v2 : Int) (v3 : Int) (q1 : R32 v1) (q2 : R32 v2) (q3 : R32 v3) (m : mR) (hm : Cn m) (j : Nat → Int) : PP bb w D pm_289 (15, [(0, .ref 189), (1, .int (i32 v1)), (2, .int (i32 v2)), (3, .int (i32 v3))], [.ref 189], (mhp m c, N), 0, 0) (QS (FR1 c N) (rfl_lay_15 v1 v2 v3 m)) := by
  unfold rfl_lay_15
  show PP bb w D pm_289 (15, [(0, .ref 189), (1, .int (i32 v1)), (2, .int (i32 v2)), (3, .int (i32 v3))], [.ref 189], (mhp (mO m [] []) c, N), 0, 0) _
  refine P_ld 16 (.int (i32 1)) rfl (fun _ => rfl) ?_
  refine P_goto 43 rfl (fun _ => rfl) ?_
  exact dg_lay_43 w c N D bb v1 v2 v3 1 q1 q2 q3 (l32 1 rfl) m hm (jk [])
def rf_lay (v1 : Int) (v2 : Int) (v3 : Int) (m : mR) : Option (Int × mR) :=
  if m.1 127 = 0 then
    rfl_lay_15 v1 v2 v3 m
  else
    if m.1 128 = 0 then
      if v1 < 1 then
        rfl_lay_38 v1 v2 v3 m
      else
        if (12 : Int) < v1 then
          rfl_lay_38 v1 v2 v3 m
        else
          if v2 < 0 then
            rfl_lay_38 v1 v2 v3 m
          else
            if (0 : Int) ≤ v3 then
              rfl_lay_43 v1 v2 v3 0 m
            else
              rfl_lay_38 v1 v2 v3 m
    else
      rfl_lay_15 v1 v2 v3 m
theorem D_lay (w : wX) (m : mR) (c : Nat → Option am_C) (N D : Nat) (hm : Cn m) (v1 : Int) (v2 : Int) (v3 : Int) (q1 : R32 v1) (q2 : R32 v2) (q3 : R32 v3) : PC w D 289 [.ref 189, .int (i32 v1), .int (i32 v2), .int (i32 v3)] (mhp m c, N) (QS (FR1 c N) (rf_lay v1 v2 v3 m)) := by
  refine Pc_of (fun D bb => ?_) D
  unfold rf_lay
  show PP bb w D pm_289 (0, [(0, .ref 189), (1, .int (i32 v1)), (2, .int (i32 v2)), (3, .int (i32 v3))], [], (mhp (mO m [] []) c, N), 0, 0) _
  refine P_ld 1 (.ref 189) rfl (fun _ => rfl) ?_
  refine P_gf 5 (.int (i32 (m.1 127))) rfl rfl rfl rfl rfl rfl ?_
  refine P_ifF 15 8 rfl rfl rfl (Cn_i hm 127 rfl) rfl (fun h33 => ?_) (fun h33 => ?_)
  · skip
    exact dg_lay_15 w c N D bb v1 v2 v3 q1 q2 q3 m hm (jk [])
  · skip
    refine P_gf 12 (.int (i32 (m.1 128))) rfl rfl rfl rfl rfl rfl ?_
    refine P_ifF 19 15 rfl rfl rfl (Cn_i hm 128 rfl) rfl (fun h34 => ?_) (fun h34 => ?_)
    · skip
      refine P_ld 20 (.int (i32 v1)) rfl (fun _ => rfl) ?_
      refine P_ld 21 (.int (i32 1)) rfl (fun _ => rfl) ?_
      refine P_icF 38 24 rfl rfl rfl q1 (l32 1 rfl) rfl (fun h35 => ?_) (fun h35 => ?_)
      · skip
        exact dg_lay_38 w c N D bb v1 v2 v3 q1 q2 q3 m hm (jk [])
      · skip
        refine P_ld 25 (.int (i32 v1)) rfl (fun _ => rfl) ?_
        refine P_ld 27 (.int (i32 12)) rfl (fun _ => rfl) ?_
        refine P_icF 38 30 rfl rfl rfl q1 (l32 12 rfl) rfl (fun h36 => ?_) (fun h36 => ?_)
        · skip
          exact dg_lay_38 w c N D bb v1 v2 v3 q1 q2 q3 m hm (jk [])
        · skip
          refine P_ld 31 (.int (i32 v2)) rfl (fun _ => rfl) ?_
          refine P_ifF 38 34 rfl rfl rfl q2 rfl (fun h37 => ?_) (fun h37 => ?_)
          · skip
            exact dg_lay_38 w c N D bb v1 v2 v3 q1 q2 q3 m hm (jk [])
          · skip
            refine P_ld 35 (.int (i32 v3)) rfl (fun _ => rfl) ?_
            refine P_ifF 42 38 rfl rfl rfl q3 rfl (fun h38 => ?_) (fun h38 => ?_)
            · skip
              refine P_ld 43 (.int (i32 0)) rfl (fun _ => rfl) ?_
              exact dg_lay_43 w c N D bb v1 v2 v3 0 q1 q2 q3 (l32 0 rfl) m hm (jk [])
            · skip
              exact dg_lay_38 w c N D bb v1 v2 v3 q1 q2 q3 m hm (jk [])
    · skip
      exact dg_lay_15 w c N D bb v1 v2 v3 q1 q2 q3 m hm (jk [])
end X26Q
