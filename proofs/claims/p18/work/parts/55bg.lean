noncomputable section X55BG
def cs_writePacket_11 (s : Int × mR) : Prop := R32 s.1 ∧ Cn s.2
def cx_writePacket_11 : (mR) → Prop := (fun (e : mR) => Cn e)
def hd_writePacket_11 (c : Nat → Option am_C) (N : Nat) (v1 : Int) (v2 : Int) (v3 : Int) (s : Int × mR) (j : Nat → Int) : ag_St af_T := (11, [(0, .ref 189), (1, .int (i32 v1)), (2, .int (i32 v2)), (3, .int (i32 v3)), (4, .int (i32 s.1))], [], (mhp s.2 c, N), 0, 0)
def ex_writePacket_11 (c : Nat → Option am_C) (N : Nat) (v1 : Int) (v2 : Int) (v3 : Int) : (mR) → (Nat → Int) → ag_St af_T := (fun (e : mR) (j : Nat → Int) => ((35, [(0, .ref 189), (1, .int (i32 v1)), (2, .int (i32 v2)), (3, .int (i32 v3)), (4, .int (i32 (j 4)))], [], (mhp e c, N), 0, 0) : ag_St af_T))
def cs_writePacket_38 (s : Int × Int × mR) : Prop := R32 s.1 ∧ R32 s.2.1 ∧ Cn s.2.2
def cx_writePacket_38 : (Int × mR) → Prop := (fun (e : Int × mR) => R32 e.1 ∧ Cn e.2)
def hd_writePacket_38 (c : Nat → Option am_C) (N : Nat) (v1 : Int) (v3 : Int) (s : Int × Int × mR) (j : Nat → Int) : ag_St af_T := (38, [(0, .ref 189), (1, .int (i32 v1)), (2, .int (i32 s.1)), (3, .int (i32 v3)), (4, .int (i32 s.2.1)), (5, .int (i32 (j 5))), (6, .int (i32 (j 6))), (7, .int (i32 (j 7))), (8, .int (i32 (j 8))), (9, .int (i32 (j 9)))], [], (mhp s.2.2 c, N), 0, 0)
def ex_writePacket_38 (c : Nat → Option am_C) (N : Nat) (v1 : Int) (v3 : Int) : (Int × mR) → (Nat → Int) → ag_St af_T := (fun (e : Int × mR) (j : Nat → Int) => ((183, [(0, .ref 189), (1, .int (i32 v1)), (2, .int (i32 e.1)), (3, .int (i32 v3)), (4, .int (i32 (j 4))), (5, .int (i32 (j 5))), (6, .int (i32 (j 6))), (7, .int (i32 (j 7))), (8, .int (i32 (j 8))), (9, .int (i32 (j 9)))], [], (mhp e.2 c, N), 0, 0) : ag_St af_T))
def cs_writePacket_68 (s : Int × Int × mR) : Prop := R32 s.1 ∧ R32 s.2.1 ∧ Cn s.2.2
def cx_writePacket_68 : (Int × mR) → Prop := (fun (e : Int × mR) => R32 e.1 ∧ Cn e.2)
def hd_writePacket_68 (c : Nat → Option am_C) (N : Nat) (v1 : Int) (v3 : Int) (v4 : Int) (v5 : Int) (v6 : Int) (s : Int × Int × mR) (j : Nat → Int) : ag_St af_T := (68, [(0, .ref 189), (1, .int (i32 v1)), (2, .int (i32 s.1)), (3, .int (i32 v3)), (4, .int (i32 v4)), (5, .int (i32 v5)), (6, .int (i32 v6)), (7, .int (i32 s.2.1)), (8, .int (i32 (j 8))), (9, .int (i32 (j 9)))], [], (mhp s.2.2 c, N), 0, 0)
def ex_writePacket_68 (c : Nat → Option am_C) (N : Nat) (v1 : Int) (v3 : Int) (v4 : Int) (v5 : Int) (v6 : Int) : (Int × mR) → (Nat → Int) → ag_St af_T := (fun (e : Int × mR) (j : Nat → Int) => ((177, [(0, .ref 189), (1, .int (i32 v1)), (2, .int (i32 e.1)), (3, .int (i32 v3)), (4, .int (i32 v4)), (5, .int (i32 (j 5))), (6, .int (i32 (j 6))), (7, .int (i32 (j 7))), (8, .int (i32 (j 8))), (9, .int (i32 (j 9)))], [], (mhp e.2 c, N), 0, 0) : ag_St af_T))
def cs_writePacket_107 (s : Int × Int × mR) : Prop := R32 s.1 ∧ R32 s.2.1 ∧ Cn s.2.2
def cx_writePacket_107 : (Int × mR) → Prop := (fun (e : Int × mR) => R32 e.1 ∧ Cn e.2)
def hd_writePacket_107 (c : Nat → Option am_C) (N : Nat) (v1 : Int) (v3 : Int) (v4 : Int) (v5 : Int) (v6 : Int) (v7 : Int) (s : Int × Int × mR) (j : Nat → Int) : ag_St af_T := (107, [(0, .ref 189), (1, .int (i32 v1)), (2, .int (i32 s.1)), (3, .int (i32 v3)), (4, .int (i32 v4)), (5, .int (i32 v5)), (6, .int (i32 v6)), (7, .int (i32 v7)), (8, .int (i32 s.2.1)), (9, .int (i32 (j 9)))], [], (mhp s.2.2 c, N), 0, 0)
def ex_writePacket_107 (c : Nat → Option am_C) (N : Nat) (v1 : Int) (v3 : Int) (v4 : Int) (v5 : Int) (v6 : Int) (v7 : Int) : (Int × mR) → (Nat → Int) → ag_St af_T := (fun (e : Int × mR) (j : Nat → Int) => ((171, [(0, .ref 189), (1, .int (i32 v1)), (2, .int (i32 e.1)), (3, .int (i32 v3)), (4, .int (i32 v4)), (5, .int (i32 v5)), (6, .int (i32 v6)), (7, .int (i32 v7)), (8, .int (i32 (j 8))), (9, .int (i32 (j 9)))], [], (mhp e.2 c, N), 0, 0) : ag_St af_T))
def cs_writePacket_195 (s : Int × Int × mR) : Prop := R32 s.1 ∧ R32 s.2.1 ∧ Cn s.2.2
def cx_writePacket_195 : (Int × mR) → Prop := (fun (e : Int × mR) => R32 e.1 ∧ Cn e.2)
def hd_writePacket_195 (c : Nat → Option am_C) (N : Nat) (v1 : Int) (v3 : Int) (s : Int × Int × mR) (j : Nat → Int) : ag_St af_T := (195, [(0, .ref 189), (1, .int (i32 v1)), (2, .int (i32 (j 2))), (3, .int (i32 v3)), (4, .int (i32 s.1)), (5, .int (i32 s.2.1)), (6, .int (i32 (j 6))), (7, .int (i32 (j 7))), (8, .int (i32 (j 8))), (9, .int (i32 (j 9)))], [], (mhp s.2.2 c, N), 0, 0)
def ex_writePacket_195 (c : Nat → Option am_C) (N : Nat) (v1 : Int) (v3 : Int) : (Int × mR) → (Nat → Int) → ag_St af_T := (fun (e : Int × mR) (j : Nat → Int) => ((231, [(0, .ref 189), (1, .int (i32 v1)), (2, .int (i32 (j 2))), (3, .int (i32 (j 3))), (4, .int (i32 e.1)), (5, .int (i32 (j 5))), (6, .int (i32 (j 6))), (7, .int (i32 (j 7))), (8, .int (i32 (j 8))), (9, .int (i32 (j 9)))], [], (mhp e.2 c, N), 0, 0) : ag_St af_T))
def rfl_writePacket_231 (v1 : Int) (v4 : Int) (m : mR) : Option (Int × mR) :=
  some (0, (mO m [] [(165, upI (m.2 165) v1 (cut ((m.2 172) 2))), (166, upI (m.2 166) v1 v4)]))
theorem dg_writePacket_231 (w : wX) (c : Nat → Option am_C) (N D : Nat) (bb : Nat) (v1 : Int) (v4 : Int) (q1 : R32 v1) (q4 : R32 v4) (m : mR) (hm : Cn m) (j : Nat → Int) : PP bb w D pm_340 (231, [(0, .ref 189), (1, .int (i32 v1)), (2, .int (i32 (j 2))), (3, .int (i32 (j 3))), (4, .int (i32 v4)), (5, .int (i32 (j 5))), (6, .int (i32 (j 6))), (7, .int (i32 (j 7))), (8, .int (i32 (j 8))), (9, .int (i32 (j 9)))], [], (mhp m c, N), 0, 0) (QS (FR0 c N) (rfl_writePacket_231 v1 v4 m)) := by
  unfold rfl_writePacket_231
  show PP bb w D pm_340 (231, [(0, .ref 189), (1, .int (i32 v1)), (2, .int (i32 (j 2))), (3, .int (i32 (j 3))), (4, .int (i32 v4)), (5, .int (i32 (j 5))), (6, .int (i32 (j 6))), (7, .int (i32 (j 7))), (8, .int (i32 (j 8))), (9, .int (i32 (j 9)))], [], (mhp (mO m [] []) c, N), 0, 0) _
  refine P_gf 235 (.ref 314) rfl rfl rfl rfl rfl rfl ?_
  refine P_ld 236 (.int (i32 v1)) rfl (fun _ => rfl) ?_
  refine P_gf 240 (.ref 321) rfl rfl rfl rfl rfl rfl ?_
  refine P_ld 241 (.int (i32 2)) rfl (fun _ => rfl) ?_
  refine P_lald2 242 172 (m.2 172) rfl rfl rfl (l32 2 rfl) rfl ?_
  refine P_op 243 (cut ((m.2 172) 2)) _ rfl (fun _ => rfl) o_l2i ?_
  refine P_iast2 (a' := [(165, upI (m.2 165) v1 (cut ((m.2 172) 2)))]) 244 165 (m.2 165) rfl rfl rfl q1 rfl rfl ?_
  refine P_gf 248 (.ref 315) rfl rfl rfl rfl rfl rfl ?_
  refine P_ld 249 (.int (i32 v1)) rfl (fun _ => rfl) ?_
  refine P_ld 251 (.int (i32 v4)) rfl (fun _ => rfl) ?_
  refine P_iast2 (a' := [(165, upI (m.2 165) v1 (cut ((m.2 172) 2))), (166, upI (m.2 166) v1 v4)]) 252 166 (m.2 166) rfl rfl rfl q1 rfl rfl ?_
  exact P_re0 rfl rfl (Cn_mO hm trivial ⟨(rE_ui (Cn_a hm 165) rfl cut_r), (rE_ui (Cn_a hm 166) rfl q4), trivial⟩)
def rfb_writePacket_195 (v1 : Int) (v3 : Int) (s : Int × Int × mR) : Option (Sum (Int × Int × mR) (Int × mR)) :=
  if (s.2.2.2 154) 0 ≤ s.2.1 then
    some (.inr (s.1, s.2.2))
  else
    some (.inl (cut (s.1 + 1), cut (s.2.1 + 1), (mO s.2.2 [] [(168, upI (s.2.2.2 168) (cut (v3 + s.1)) ((s.2.2.2 159) s.2.1))])))
theorem dh_writePacket_195 (w : wX) (c : Nat → Option am_C) (N D : Nat) (v1 : Int) (v3 : Int) (q1 : R32 v1) (q3 : R32 v3) (bb : Nat) (Q2 : Sum (Int × Int × mR) (Int × mR) → ag_Re af_T → Prop) (H1 : ∀ s j, cs_writePacket_195 s → PP bb w D pm_340 (hd_writePacket_195 c N v1 v3 s j) (Q2 (.inl s))) (H2 : ∀ x j, cx_writePacket_195 x → PP bb w D pm_340 (ex_writePacket_195 c N v1 v3 x j) (Q2 (.inr x))) (s : Int × Int × mR) (j : Nat → Int) (hs : cs_writePacket_195 s) : PP (bb + 1) w D pm_340 (hd_writePacket_195 c N v1 v3 s j) (QS Q2 (rfb_writePacket_195 v1 v3 s)) := by
  obtain ⟨g4, g5, gm⟩ := hs
  unfold rfb_writePacket_195
  show PP (bb + 1) w D pm_340 (195, [(0, .ref 189), (1, .int (i32 v1)), (2, .int (i32 (j 2))), (3, .int (i32 v3)), (4, .int (i32 s.1)), (5, .int (i32 s.2.1)), (6, .int (i32 (j 6))), (7, .int (i32 (j 7))), (8, .int (i32 (j 8))), (9, .int (i32 (j 9)))], [], (mhp (mO s.2.2 [] []) c, N), 0, 0) _
  refine P1_ld 197 (.int (i32 s.2.1)) rfl (fun _ => rfl) ?_
  refine P_gf 201 (.ref 303) rfl rfl rfl rfl rfl rfl ?_
  refine P_ld 202 (.int (i32 0)) rfl (fun _ => rfl) ?_
  refine P_iald2 203 154 (s.2.2.2 154) rfl rfl rfl (l32 0 rfl) rfl ?_
  refine P_icF 231 206 rfl rfl rfl g5 (rE_i (Cn_a gm 154) rfl _) rfl (fun h12 => ?_) (fun h12 => ?_)
  · skip
    refine P_some ?_
    exact H2 (s.1, s.2.2) (jk [(2, j 2), (3, v3), (5, s.2.1), (6, j 6), (7, j 7), (8, j 8), (9, j 9)]) ⟨g4, gm⟩
  · skip
    refine P_gf 210 (.ref 317) rfl rfl rfl rfl rfl rfl ?_
    refine P_ld 211 (.int (i32 v3)) rfl (fun _ => rfl) ?_
    refine P_ld 213 (.int (i32 s.1)) rfl (fun _ => rfl) ?_
    refine P_op 214 (cut (v3 + s.1)) _ rfl (fun _ => rfl) o_add ?_
    refine P_gf 218 (.ref 308) rfl rfl rfl rfl rfl rfl ?_
    refine P_ld 220 (.int (i32 s.2.1)) rfl (fun _ => rfl) ?_
    refine P_iald2 221 159 (s.2.2.2 159) rfl rfl rfl g5 rfl ?_
    refine P_iast2 (a' := [(168, upI (s.2.2.2 168) (cut (v3 + s.1)) ((s.2.2.2 159) s.2.1))]) 222 168 (s.2.2.2 168) rfl rfl rfl cut_r rfl rfl ?_
    refine P_inc 225 [(4, .int (i32 (cut (s.1 + 1)))), (0, .ref 189), (1, .int (i32 v1)), (2, .int (i32 (j 2))), (3, .int (i32 v3)), (5, .int (i32 s.2.1)), (6, .int (i32 (j 6))), (7, .int (i32 (j 7))), (8, .int (i32 (j 8))), (9, .int (i32 (j 9)))] rfl rfl (by decide) rfl rfl ?_
    refine P_inc 228 [(5, .int (i32 (cut (s.2.1 + 1)))), (4, .int (i32 (cut (s.1 + 1)))), (0, .ref 189), (1, .int (i32 v1)), (2, .int (i32 (j 2))), (3, .int (i32 v3)), (6, .int (i32 (j 6))), (7, .int (i32 (j 7))), (8, .int (i32 (j 8))), (9, .int (i32 (j 9)))] rfl rfl (by decide) rfl rfl ?_
    refine P_goto 195 rfl (fun _ => rfl) ?_
    refine P_some ?_
    refine P_lv (b := [(0, .ref 189), (1, .int (i32 v1)), (2, .int (i32 (j 2))), (3, .int (i32 v3)), (4, .int (i32 (cut (s.1 + 1)))), (5, .int (i32 (cut (s.2.1 + 1)))), (6, .int (i32 (j 6))), (7, .int (i32 (j 7))), (8, .int (i32 (j 8))), (9, .int (i32 (j 9)))]) rfl rfl ⟨rfl, rfl, rfl, rfl, rfl, rfl, rfl, rfl, rfl, rfl, trivial⟩ ?_
    exact H1 (cut (s.1 + 1), cut (s.2.1 + 1), (mO s.2.2 [] [(168, upI (s.2.2.2 168) (cut (v3 + s.1)) ((s.2.2.2 159) s.2.1))])) (jk [(2, j 2), (6, j 6), (7, j 7), (8, j 8), (9, j 9)]) ⟨cut_r, cut_r, (Cn_mO gm trivial ⟨(rE_ui (Cn_a gm 168) rfl (rE_i (Cn_a gm 159) rfl _)), trivial⟩)⟩
def rfl_writePacket_183 (v1 : Int) (v2 : Int) (v3 : Int) (m : mR) : Option (Int × mR) :=
  bnd (whl (rfb_writePacket_195 v1 v3) (v2.tdiv 8, m.1 176, m)) (fun e13 : Int × mR =>
    rfl_writePacket_231 v1 e13.1 e13.2)
theorem dg_writePacket_183 (w : wX) (c : Nat → Option am_C) (N D : Nat) (bb : Nat) (v1 : Int) (v2 : Int) (v3 : Int) (q1 : R32 v1) (q2 : R32 v2) (q3 : R32 v3) (m : mR) (hm : Cn m) (j : Nat → Int) : PP bb w D pm_340 (183, [(0, .ref 189), (1, .int (i32 v1)), (2, .int (i32 v2)), (3, .int (i32 v3)), (4, .int (i32 (j 4))), (5, .int (i32 (j 5))), (6, .int (i32 (j 6))), (7, .int (i32 (j 7))), (8, .int (i32 (j 8))), (9, .int (i32 (j 9)))], [], (mhp m c, N), 0, 0) (QS (FR0 c N) (rfl_writePacket_183 v1 v2 v3 m)) := by
  unfold rfl_writePacket_183
  show PP bb w D pm_340 (183, [(0, .ref 189), (1, .int (i32 v1)), (2, .int (i32 v2)), (3, .int (i32 v3)), (4, .int (i32 (j 4))), (5, .int (i32 (j 5))), (6, .int (i32 (j 6))), (7, .int (i32 (j 7))), (8, .int (i32 (j 8))), (9, .int (i32 (j 9)))], [], (mhp (mO m [] []) c, N), 0, 0) _
  refine P_ld 184 (.int (i32 v2)) rfl (fun _ => rfl) ?_
  refine P_ld 186 (.int (i32 8)) rfl (fun _ => rfl) ?_
  refine P_div 187 rfl rfl q2 (by decide) (by decide) ?_
  refine P_sto 189 [(4, .int (i32 (v2.tdiv 8))), (0, .ref 189), (1, .int (i32 v1)), (2, .int (i32 v2)), (3, .int (i32 v3)), (5, .int (i32 (j 5))), (6, .int (i32 (j 6))), (7, .int (i32 (j 7))), (8, .int (i32 (j 8))), (9, .int (i32 (j 9)))] rfl (fun _ => rfl) ?_
  refine P_gf 193 (.int (i32 (m.1 176))) rfl rfl rfl rfl rfl rfl ?_
  refine P_sto 195 [(5, .int (i32 (m.1 176))), (4, .int (i32 (v2.tdiv 8))), (0, .ref 189), (1, .int (i32 v1)), (2, .int (i32 v2)), (3, .int (i32 v3)), (6, .int (i32 (j 6))), (7, .int (i32 (j 7))), (8, .int (i32 (j 8))), (9, .int (i32 (j 9)))] rfl (fun _ => rfl) ?_
  refine P_lv (b := [(0, .ref 189), (1, .int (i32 v1)), (2, .int (i32 v2)), (3, .int (i32 v3)), (4, .int (i32 (v2.tdiv 8))), (5, .int (i32 (m.1 176))), (6, .int (i32 (j 6))), (7, .int (i32 (j 7))), (8, .int (i32 (j 8))), (9, .int (i32 (j 9)))]) rfl rfl ⟨rfl, rfl, rfl, rfl, rfl, rfl, rfl, rfl, rfl, rfl, trivial⟩ ?_
  refine P_bnd ?_
  refine P_whl (fun bb Q2 H1 H2 s9 j9 hs9 => dh_writePacket_195 w c N D v1 v3 q1 q3 bb Q2 H1 H2 s9 j9 hs9) bb (fun e13 j q14 => ?_) (v2.tdiv 8, m.1 176, m) (jk [(2, v2), (6, j 6), (7, j 7), (8, j 8), (9, j 9)]) ⟨(tdiv_r q2 (by decide)), (Cn_i hm 176 rfl), hm⟩
  obtain ⟨q15, q16⟩ := q14
  show PP bb w D pm_340 (231, [(0, .ref 189), (1, .int (i32 v1)), (2, .int (i32 (j 2))), (3, .int (i32 (j 3))), (4, .int (i32 e13.1)), (5, .int (i32 (j 5))), (6, .int (i32 (j 6))), (7, .int (i32 (j 7))), (8, .int (i32 (j 8))), (9, .int (i32 (j 9)))], [], (mhp (mO e13.2 [] []) c, N), 0, 0) (QS _ (rfl_writePacket_231 v1 e13.1 e13.2))
  exact dg_writePacket_231 w c N D bb v1 e13.1 q1 q15 e13.2 q16 (jk [(2, j 2), (3, j 3), (5, j 5), (6, j 6), (7, j 7), (8, j 8), (9, j 9)])
def rfl_writePacket_177 (v1 : Int) (v2 : Int) (v3 : Int) (v4 : Int) (m : mR) : Option (Sum (Int × Int × mR) (Int × mR)) :=
  some (.inl (v2, cut (v4 + 1), m))
theorem dg_writePacket_177 (w : wX) (c : Nat → Option am_C) (N D : Nat) (bb : Nat) (v1 : Int) (v2 : Int) (v3 : Int) (v4 : Int) (q1 : R32 v1) (q2 : R32 v2) (q3 : R32 v3) (q4 : R32 v4) (m : mR) (hm : Cn m) (j : Nat → Int) (Q2 : Sum (Int × Int × mR) (Int × mR) → ag_Re af_T → Prop) (H1 : ∀ s j, cs_writePacket_38 s → PP bb w D pm_340 (hd_writePacket_38 c N v1 v3 s j) (Q2 (.inl s))) (H2 : ∀ x j, cx_writePacket_38 x → PP bb w D pm_340 (ex_writePacket_38 c N v1 v3 x j) (Q2 (.inr x))) : PP bb w D pm_340 (177, [(0, .ref 189), (1, .int (i32 v1)), (2, .int (i32 v2)), (3, .int (i32 v3)), (4, .int (i32 v4)), (5, .int (i32 (j 5))), (6, .int (i32 (j 6))), (7, .int (i32 (j 7))), (8, .int (i32 (j 8))), (9, .int (i32 (j 9)))], [], (mhp m c, N), 0, 0) (QS Q2 (rfl_writePacket_177 v1 v2 v3 v4 m)) := by
  unfold rfl_writePacket_177
  show PP bb w D pm_340 (177, [(0, .ref 189), (1, .int (i32 v1)), (2, .int (i32 v2)), (3, .int (i32 v3)), (4, .int (i32 v4)), (5, .int (i32 (j 5))), (6, .int (i32 (j 6))), (7, .int (i32 (j 7))), (8, .int (i32 (j 8))), (9, .int (i32 (j 9)))], [], (mhp (mO m [] []) c, N), 0, 0) _
  refine P_inc 180 [(4, .int (i32 (cut (v4 + 1)))), (0, .ref 189), (1, .int (i32 v1)), (2, .int (i32 v2)), (3, .int (i32 v3)), (5, .int (i32 (j 5))), (6, .int (i32 (j 6))), (7, .int (i32 (j 7))), (8, .int (i32 (j 8))), (9, .int (i32 (j 9)))] rfl rfl (by decide) rfl rfl ?_
  refine P_goto 38 rfl (fun _ => rfl) ?_
  refine P_some ?_
  refine P_lv (b := [(0, .ref 189), (1, .int (i32 v1)), (2, .int (i32 v2)), (3, .int (i32 v3)), (4, .int (i32 (cut (v4 + 1)))), (5, .int (i32 (j 5))), (6, .int (i32 (j 6))), (7, .int (i32 (j 7))), (8, .int (i32 (j 8))), (9, .int (i32 (j 9)))]) rfl rfl ⟨rfl, rfl, rfl, rfl, rfl, rfl, rfl, rfl, rfl, rfl, trivial⟩ ?_
  exact H1 (v2, cut (v4 + 1), m) (jk [(5, j 5), (6, j 6), (7, j 7), (8, j 8), (9, j 9)]) ⟨q2, cut_r, hm⟩
def rfl_writePacket_171 (v1 : Int) (v2 : Int) (v3 : Int) (v4 : Int) (v5 : Int) (v6 : Int) (v7 : Int) (m : mR) : Option (Sum (Int × Int × mR) (Int × mR)) :=
  some (.inl (v2, cut (v7 + 1), m))
theorem dg_writePacket_171 (w : wX) (c : Nat → Option am_C) (N D : Nat) (bb : Nat) (v1 : Int) (v2 : Int) (v3 : Int) (v4 : Int) (v5 : Int) (v6 : Int) (v7 : Int) (q1 : R32 v1) (q2 : R32 v2) (q3 : R32 v3) (q4 : R32 v4) (q5 : R32 v5) (q6 : R32 v6) (q7 : R32 v7) (m : mR) (hm : Cn m) (j : Nat → Int) (Q2 : Sum (Int × Int × mR) (Int × mR) → ag_Re af_T → Prop) (H1 : ∀ s j, cs_writePacket_68 s → PP bb w D pm_340 (hd_writePacket_68 c N v1 v3 v4 v5 v6 s j) (Q2 (.inl s))) (H2 : ∀ x j, cx_writePacket_68 x → PP bb w D pm_340 (ex_writePacket_68 c N v1 v3 v4 v5 v6 x j) (Q2 (.inr x))) : PP bb w D pm_340 (171, [(0, .ref 189), (1, .int (i32 v1)), (2, .int (i32 v2)), (3, .int (i32 v3)), (4, .int (i32 v4)), (5, .int (i32 v5)), (6, .int (i32 v6)), (7, .int (i32 v7)), (8, .int (i32 (j 8))), (9, .int (i32 (j 9)))], [], (mhp m c, N), 0, 0) (QS Q2 (rfl_writePacket_171 v1 v2 v3 v4 v5 v6 v7 m)) := by
  unfold rfl_writePacket_171
  show PP bb w D pm_340 (171, [(0, .ref 189), (1, .int (i32 v1)), (2, .int (i32 v2)), (3, .int (i32 v3)), (4, .int (i32 v4)), (5, .int (i32 v5)), (6, .int (i32 v6)), (7, .int (i32 v7)), (8, .int (i32 (j 8))), (9, .int (i32 (j 9)))], [], (mhp (mO m [] []) c, N), 0, 0) _
  refine P_inc 174 [(7, .int (i32 (cut (v7 + 1)))), (0, .ref 189), (1, .int (i32 v1)), (2, .int (i32 v2)), (3, .int (i32 v3)), (4, .int (i32 v4)), (5, .int (i32 v5)), (6, .int (i32 v6)), (8, .int (i32 (j 8))), (9, .int (i32 (j 9)))] rfl rfl (by decide) rfl rfl ?_
  refine P_goto 68 rfl (fun _ => rfl) ?_
  refine P_some ?_
  refine P_lv (b := [(0, .ref 189), (1, .int (i32 v1)), (2, .int (i32 v2)), (3, .int (i32 v3)), (4, .int (i32 v4)), (5, .int (i32 v5)), (6, .int (i32 v6)), (7, .int (i32 (cut (v7 + 1)))), (8, .int (i32 (j 8))), (9, .int (i32 (j 9)))]) rfl rfl ⟨rfl, rfl, rfl, rfl, rfl, rfl, rfl, rfl, rfl, rfl, trivial⟩ ?_
  exact H1 (v2, cut (v7 + 1), m) (jk [(8, j 8), (9, j 9)]) ⟨q2, cut_r, hm⟩
def rfb_writePacket_107 (v1 : Int) (v3 : Int) (v4 : Int) (v5 : Int) (v6 : Int) (v7 : Int) (s : Int × Int × mR) : Option (Sum (Int × Int × mR) (Int × mR)) :=
  if s.2.1 < 0 then
    some (.inr (s.1, s.2.2))
  else
    some (.inl (cut (s.1 + 1), cut (s.2.1 + (-1)), (mO s.2.2 [] [(168, upI (s.2.2.2 168) (cut (v3 + (s.1.tdiv 8))) (or32 ((s.2.2.2 168) (cut (v3 + (s.1.tdiv 8)))) (shl32 (cut (and64 (ushr64 ((s.2.2.2 171) (cut ((cut (16 * v5)) + v7))) s.2.1) 1)) (cut (7 - (s.1.tmod 8))))))])))
theorem dh_writePacket_107 (w : wX) (c : Nat → Option am_C) (N D : Nat) (v1 : Int) (v3 : Int) (v4 : Int) (v5 : Int) (v6 : Int) (v7 : Int) (q1 : R32 v1) (q3 : R32 v3) (q4 : R32 v4) (q5 : R32 v5) (q6 : R32 v6) (q7 : R32 v7) (bb : Nat) (Q2 : Sum (Int × Int × mR) (Int × mR) → ag_Re af_T → Prop) (H1 : ∀ s j, cs_writePacket_107 s → PP bb w D pm_340 (hd_writePacket_107 c N v1 v3 v4 v5 v6 v7 s j) (Q2 (.inl s))) (H2 : ∀ x j, cx_writePacket_107 x → PP bb w D pm_340 (ex_writePacket_107 c N v1 v3 v4 v5 v6 v7 x j) (Q2 (.inr x))) (s : Int × Int × mR) (j : Nat → Int) (hs : cs_writePacket_107 s) : PP (bb + 1) w D pm_340 (hd_writePacket_107 c N v1 v3 v4 v5 v6 v7 s j) (QS Q2 (rfb_writePacket_107 v1 v3 v4 v5 v6 v7 s)) := by
  obtain ⟨g2, g8, gm⟩ := hs
  unfold rfb_writePacket_107
  show PP (bb + 1) w D pm_340 (107, [(0, .ref 189), (1, .int (i32 v1)), (2, .int (i32 s.1)), (3, .int (i32 v3)), (4, .int (i32 v4)), (5, .int (i32 v5)), (6, .int (i32 v6)), (7, .int (i32 v7)), (8, .int (i32 s.2.1)), (9, .int (i32 (j 9)))], [], (mhp (mO s.2.2 [] []) c, N), 0, 0) _
  refine P1_ld 109 (.int (i32 s.2.1)) rfl (fun _ => rfl) ?_
  refine P_ifF 171 112 rfl rfl rfl g8 rfl (fun h19 => ?_) (fun h19 => ?_)
  · skip
    refine P_some ?_
    exact H2 (s.1, s.2.2) (jk [(8, s.2.1), (9, j 9)]) ⟨g2, gm⟩
  · skip
    refine P_ld 113 (.int (i32 v3)) rfl (fun _ => rfl) ?_
    refine P_ld 114 (.int (i32 s.1)) rfl (fun _ => rfl) ?_
    refine P_ld 116 (.int (i32 8)) rfl (fun _ => rfl) ?_
    refine P_div 117 rfl rfl g2 (by decide) (by decide) ?_
    refine P_op 118 (cut (v3 + (s.1.tdiv 8))) _ rfl (fun _ => rfl) o_add ?_
    refine P_sto 120 [(9, .int (i32 (cut (v3 + (s.1.tdiv 8))))), (0, .ref 189), (1, .int (i32 v1)), (2, .int (i32 s.1)), (3, .int (i32 v3)), (4, .int (i32 v4)), (5, .int (i32 v5)), (6, .int (i32 v6)), (7, .int (i32 v7)), (8, .int (i32 s.2.1))] rfl (fun _ => rfl) ?_
    refine P_gf 124 (.ref 317) rfl rfl rfl rfl rfl rfl ?_
    refine P_ld 126 (.int (i32 (cut (v3 + (s.1.tdiv 8))))) rfl (fun _ => rfl) ?_
    refine P_gf 130 (.ref 317) rfl rfl rfl rfl rfl rfl ?_
    refine P_ld 132 (.int (i32 (cut (v3 + (s.1.tdiv 8))))) rfl (fun _ => rfl) ?_
    refine P_iald2 133 168 (s.2.2.2 168) rfl rfl rfl cut_r rfl ?_
    refine P_gf 137 (.ref 320) rfl rfl rfl rfl rfl rfl ?_
    refine P_ld 139 (.int (i32 16)) rfl (fun _ => rfl) ?_
    refine P_ld 141 (.int (i32 v5)) rfl (fun _ => rfl) ?_
    refine P_op 142 (cut (16 * v5)) _ rfl (fun _ => rfl) o_mul ?_
    refine P_ld 144 (.int (i32 v7)) rfl (fun _ => rfl) ?_
    refine P_op 145 (cut ((cut (16 * v5)) + v7)) _ rfl (fun _ => rfl) o_add ?_
    refine P_lald2 146 171 (s.2.2.2 171) rfl rfl rfl cut_r rfl ?_
    refine P_ld 148 (.int (i32 s.2.1)) rfl (fun _ => rfl) ?_
    refine P_opl 149 (ushr64 ((s.2.2.2 171) (cut ((cut (16 * v5)) + v7))) s.2.1) _ rfl (fun _ => rfl) (Int64.ofInt_toInt _).symm ?_
    refine P_ld 150 (.long (i64 1)) rfl (fun _ => rfl) ?_
    refine P_opl 151 (and64 (ushr64 ((s.2.2.2 171) (cut ((cut (16 * v5)) + v7))) s.2.1) 1) _ rfl (fun _ => rfl) (Int64.ofInt_toInt _).symm ?_
    refine P_op 152 (cut (and64 (ushr64 ((s.2.2.2 171) (cut ((cut (16 * v5)) + v7))) s.2.1) 1)) _ rfl (fun _ => rfl) o_l2i ?_
    refine P_ld 154 (.int (i32 7)) rfl (fun _ => rfl) ?_
    refine P_ld 155 (.int (i32 s.1)) rfl (fun _ => rfl) ?_
    refine P_ld 157 (.int (i32 8)) rfl (fun _ => rfl) ?_
    refine P_rem 158 rfl rfl g2 (by decide) (by decide) ?_
    refine P_op 159 (cut (7 - (s.1.tmod 8))) _ rfl (fun _ => rfl) o_sub ?_
    refine P_op 160 (shl32 (cut (and64 (ushr64 ((s.2.2.2 171) (cut ((cut (16 * v5)) + v7))) s.2.1) 1)) (cut (7 - (s.1.tmod 8)))) _ rfl (fun _ => rfl) (i32_of _).symm ?_
    refine P_op 161 (or32 ((s.2.2.2 168) (cut (v3 + (s.1.tdiv 8)))) (shl32 (cut (and64 (ushr64 ((s.2.2.2 171) (cut ((cut (16 * v5)) + v7))) s.2.1) 1)) (cut (7 - (s.1.tmod 8))))) _ rfl (fun _ => rfl) (i32_of _).symm ?_
    refine P_iast2 (a' := [(168, upI (s.2.2.2 168) (cut (v3 + (s.1.tdiv 8))) (or32 ((s.2.2.2 168) (cut (v3 + (s.1.tdiv 8)))) (shl32 (cut (and64 (ushr64 ((s.2.2.2 171) (cut ((cut (16 * v5)) + v7))) s.2.1) 1)) (cut (7 - (s.1.tmod 8))))))]) 162 168 (s.2.2.2 168) rfl rfl rfl cut_r rfl rfl ?_
    refine P_inc 165 [(2, .int (i32 (cut (s.1 + 1)))), (9, .int (i32 (cut (v3 + (s.1.tdiv 8))))), (0, .ref 189), (1, .int (i32 v1)), (3, .int (i32 v3)), (4, .int (i32 v4)), (5, .int (i32 v5)), (6, .int (i32 v6)), (7, .int (i32 v7)), (8, .int (i32 s.2.1))] rfl rfl (by decide) rfl rfl ?_
    refine P_inc 168 [(8, .int (i32 (cut (s.2.1 + (-1))))), (2, .int (i32 (cut (s.1 + 1)))), (9, .int (i32 (cut (v3 + (s.1.tdiv 8))))), (0, .ref 189), (1, .int (i32 v1)), (3, .int (i32 v3)), (4, .int (i32 v4)), (5, .int (i32 v5)), (6, .int (i32 v6)), (7, .int (i32 v7))] rfl rfl (by decide) rfl rfl ?_
    refine P_goto 107 rfl (fun _ => rfl) ?_
    refine P_some ?_
    refine P_lv (b := [(0, .ref 189), (1, .int (i32 v1)), (2, .int (i32 (cut (s.1 + 1)))), (3, .int (i32 v3)), (4, .int (i32 v4)), (5, .int (i32 v5)), (6, .int (i32 v6)), (7, .int (i32 v7)), (8, .int (i32 (cut (s.2.1 + (-1))))), (9, .int (i32 (cut (v3 + (s.1.tdiv 8)))))]) rfl rfl ⟨rfl, rfl, rfl, rfl, rfl, rfl, rfl, rfl, rfl, rfl, trivial⟩ ?_
    exact H1 (cut (s.1 + 1), cut (s.2.1 + (-1)), (mO s.2.2 [] [(168, upI (s.2.2.2 168) (cut (v3 + (s.1.tdiv 8))) (or32 ((s.2.2.2 168) (cut (v3 + (s.1.tdiv 8)))) (shl32 (cut (and64 (ushr64 ((s.2.2.2 171) (cut ((cut (16 * v5)) + v7))) s.2.1) 1)) (cut (7 - (s.1.tmod 8))))))])) (jk [(9, cut (v3 + (s.1.tdiv 8)))]) ⟨cut_r, cut_r, (Cn_mO gm trivial ⟨(rE_ui (Cn_a gm 168) rfl t32_r), trivial⟩)⟩
def rfb_writePacket_68 (v1 : Int) (v3 : Int) (v4 : Int) (v5 : Int) (v6 : Int) (s : Int × Int × mR) : Option (Sum (Int × Int × mR) (Int × mR)) :=
  if (s.2.2.2 29) v6 ≤ s.2.1 then
    some (.inr (s.1, s.2.2))
  else
    if (s.2.2.2 175) v5 = 0 then
      some (.inr (s.1, s.2.2))
    else
      bnd (whl (rfb_writePacket_107 v1 v3 v4 v5 v6 s.2.1) (s.1, cut (((s.2.2.2 33) (cut ((cut (16 * v6)) + s.2.1))) - 1), s.2.2)) (fun e24 : Int × mR =>
        rfl_writePacket_171 v1 e24.1 v3 v4 v5 v6 s.2.1 e24.2)
theorem dh_writePacket_68 (w : wX) (c : Nat → Option am_C) (N D : Nat) (v1 : Int) (v3 : Int) (v4 : Int) (v5 : Int) (v6 : Int) (q1 : R32 v1) (q3 : R32 v3) (q4 : R32 v4) (q5 : R32 v5) (q6 : R32 v6) (bb : Nat) (Q2 : Sum (Int × Int × mR) (Int × mR) → ag_Re af_T → Prop) (H1 : ∀ s j, cs_writePacket_68 s → PP bb w D pm_340 (hd_writePacket_68 c N v1 v3 v4 v5 v6 s j) (Q2 (.inl s))) (H2 : ∀ x j, cx_writePacket_68 x → PP bb w D pm_340 (ex_writePacket_68 c N v1 v3 v4 v5 v6 x j) (Q2 (.inr x))) (s : Int × Int × mR) (j : Nat → Int) (hs : cs_writePacket_68 s) : PP (bb + 1) w D pm_340 (hd_writePacket_68 c N v1 v3 v4 v5 v6 s j) (QS Q2 (rfb_writePacket_68 v1 v3 v4 v5 v6 s)) := by
  obtain ⟨g2, g7, gm⟩ := hs
  unfold rfb_writePacket_68
  show PP (bb + 1) w D pm_340 (68, [(0, .ref 189), (1, .int (i32 v1)), (2, .int (i32 s.1)), (3, .int (i32 v3)), (4, .int (i32 v4)), (5, .int (i32 v5)), (6, .int (i32 v6)), (7, .int (i32 s.2.1)), (8, .int (i32 (j 8))), (9, .int (i32 (j 9)))], [], (mhp (mO s.2.2 [] []) c, N), 0, 0) _
  refine P1_ld 70 (.int (i32 s.2.1)) rfl (fun _ => rfl) ?_
  refine P_gf 74 (.ref 199) rfl rfl rfl rfl rfl rfl ?_
  refine P_ld 76 (.int (i32 v6)) rfl (fun _ => rfl) ?_
  refine P_iald2 77 29 (s.2.2.2 29) rfl rfl rfl q6 rfl ?_
  refine P_icF 177 80 rfl rfl rfl g7 (rE_i (Cn_a gm 29) rfl _) rfl (fun h22 => ?_) (fun h22 => ?_)
  · skip
    refine P_some ?_
    exact H2 (s.1, s.2.2) (jk [(5, v5), (6, v6), (7, s.2.1), (8, j 8), (9, j 9)]) ⟨g2, gm⟩
  · skip
    refine P_gf 84 (.ref 324) rfl rfl rfl rfl rfl rfl ?_
    refine P_ld 86 (.int (i32 v5)) rfl (fun _ => rfl) ?_
    refine P_bald2 87 175 (s.2.2.2 175) rfl rfl rfl q5 rfl ?_
    refine P_ifF 177 90 rfl rfl rfl (rE_i (Cn_a gm 175) rfl _) rfl (fun h23 => ?_) (fun h23 => ?_)
    · skip
      refine P_some ?_
      exact H2 (s.1, s.2.2) (jk [(5, v5), (6, v6), (7, s.2.1), (8, j 8), (9, j 9)]) ⟨g2, gm⟩
    · skip
      refine P_gf 94 (.ref 203) rfl rfl rfl rfl rfl rfl ?_
      refine P_ld 96 (.int (i32 16)) rfl (fun _ => rfl) ?_
      refine P_ld 98 (.int (i32 v6)) rfl (fun _ => rfl) ?_
      refine P_op 99 (cut (16 * v6)) _ rfl (fun _ => rfl) o_mul ?_
      refine P_ld 101 (.int (i32 s.2.1)) rfl (fun _ => rfl) ?_
      refine P_op 102 (cut ((cut (16 * v6)) + s.2.1)) _ rfl (fun _ => rfl) o_add ?_
      refine P_iald2 103 33 (s.2.2.2 33) rfl rfl rfl cut_r rfl ?_
      refine P_ld 104 (.int (i32 1)) rfl (fun _ => rfl) ?_
      refine P_op 105 (cut (((s.2.2.2 33) (cut ((cut (16 * v6)) + s.2.1))) - 1)) _ rfl (fun _ => rfl) o_sub ?_
      refine P_sto 107 [(8, .int (i32 (cut (((s.2.2.2 33) (cut ((cut (16 * v6)) + s.2.1))) - 1)))), (0, .ref 189), (1, .int (i32 v1)), (2, .int (i32 s.1)), (3, .int (i32 v3)), (4, .int (i32 v4)), (5, .int (i32 v5)), (6, .int (i32 v6)), (7, .int (i32 s.2.1)), (9, .int (i32 (j 9)))] rfl (fun _ => rfl) ?_
      refine P_lv (b := [(0, .ref 189), (1, .int (i32 v1)), (2, .int (i32 s.1)), (3, .int (i32 v3)), (4, .int (i32 v4)), (5, .int (i32 v5)), (6, .int (i32 v6)), (7, .int (i32 s.2.1)), (8, .int (i32 (cut (((s.2.2.2 33) (cut ((cut (16 * v6)) + s.2.1))) - 1)))), (9, .int (i32 (j 9)))]) rfl rfl ⟨rfl, rfl, rfl, rfl, rfl, rfl, rfl, rfl, rfl, rfl, trivial⟩ ?_
      refine P_bnd ?_
      refine P_whl (fun bb Q2 H1 H2 s9 j9 hs9 => dh_writePacket_107 w c N D v1 v3 v4 v5 v6 s.2.1 q1 q3 q4 q5 q6 g7 bb Q2 H1 H2 s9 j9 hs9) bb (fun e24 j q25 => ?_) (s.1, cut (((s.2.2.2 33) (cut ((cut (16 * v6)) + s.2.1))) - 1), s.2.2) (jk [(9, j 9)]) ⟨g2, cut_r, gm⟩
      obtain ⟨q26, q27⟩ := q25
      show PP bb w D pm_340 (171, [(0, .ref 189), (1, .int (i32 v1)), (2, .int (i32 e24.1)), (3, .int (i32 v3)), (4, .int (i32 v4)), (5, .int (i32 v5)), (6, .int (i32 v6)), (7, .int (i32 s.2.1)), (8, .int (i32 (j 8))), (9, .int (i32 (j 9)))], [], (mhp (mO e24.2 [] []) c, N), 0, 0) (QS _ (rfl_writePacket_171 v1 e24.1 v3 v4 v5 v6 s.2.1 e24.2))
      exact dg_writePacket_171 w c N D bb v1 e24.1 v3 v4 v5 v6 s.2.1 q1 q26 q3 q4 q5 q6 g7 e24.2 q27 (jk [(8, j 8), (9, j 9)]) Q2 H1 H2
def rfb_writePacket_38 (v1 : Int) (v3 : Int) (s : Int × Int × mR) : Option (Sum (Int × Int × mR) (Int × mR)) :=
  if s.2.2.1 125 ≤ s.2.1 then
    some (.inr (s.1, s.2.2))
  else
    bnd (whl (rfb_writePacket_68 v1 v3 s.2.1 ((s.2.2.2 124) s.2.1) ((s.2.2.2 34) ((s.2.2.2 124) s.2.1))) (s.1, 0, s.2.2)) (fun e31 : Int × mR =>
      rfl_writePacket_177 v1 e31.1 v3 s.2.1 e31.2)
theorem dh_writePacket_38 (w : wX) (c : Nat → Option am_C) (N D : Nat) (v1 : Int) (v3 : Int) (q1 : R32 v1) (q3 : R32 v3) (bb : Nat) (Q2 : Sum (Int × Int × mR) (Int × mR) → ag_Re af_T → Prop) (H1 : ∀ s j, cs_writePacket_38 s → PP bb w D pm_340 (hd_writePacket_38 c N v1 v3 s j) (Q2 (.inl s))) (H2 : ∀ x j, cx_writePacket_38 x → PP bb w D pm_340 (ex_writePacket_38 c N v1 v3 x j) (Q2 (.inr x))) (s : Int × Int × mR) (j : Nat → Int) (hs : cs_writePacket_38 s) : PP (bb + 1) w D pm_340 (hd_writePacket_38 c N v1 v3 s j) (QS Q2 (rfb_writePacket_38 v1 v3 s)) := by
  obtain ⟨g2, g4, gm⟩ := hs
  unfold rfb_writePacket_38
  show PP (bb + 1) w D pm_340 (38, [(0, .ref 189), (1, .int (i32 v1)), (2, .int (i32 s.1)), (3, .int (i32 v3)), (4, .int (i32 s.2.1)), (5, .int (i32 (j 5))), (6, .int (i32 (j 6))), (7, .int (i32 (j 7))), (8, .int (i32 (j 8))), (9, .int (i32 (j 9)))], [], (mhp (mO s.2.2 [] []) c, N), 0, 0) _
  refine P1_ld 40 (.int (i32 s.2.1)) rfl (fun _ => rfl) ?_
  refine P_gf 44 (.int (i32 (s.2.2.1 125))) rfl rfl rfl rfl rfl rfl ?_
  refine P_icF 183 47 rfl rfl rfl g4 (Cn_i gm 125 rfl) rfl (fun h30 => ?_) (fun h30 => ?_)
  · skip
    refine P_some ?_
    exact H2 (s.1, s.2.2) (jk [(4, s.2.1), (5, j 5), (6, j 6), (7, j 7), (8, j 8), (9, j 9)]) ⟨g2, gm⟩
  · skip
    refine P_gf 51 (.ref 283) rfl rfl rfl rfl rfl rfl ?_
    refine P_ld 53 (.int (i32 s.2.1)) rfl (fun _ => rfl) ?_
    refine P_iald2 54 124 (s.2.2.2 124) rfl rfl rfl g4 rfl ?_
    refine P_sto 56 [(5, .int (i32 ((s.2.2.2 124) s.2.1))), (0, .ref 189), (1, .int (i32 v1)), (2, .int (i32 s.1)), (3, .int (i32 v3)), (4, .int (i32 s.2.1)), (6, .int (i32 (j 6))), (7, .int (i32 (j 7))), (8, .int (i32 (j 8))), (9, .int (i32 (j 9)))] rfl (fun _ => rfl) ?_
    refine P_gf 60 (.ref 204) rfl rfl rfl rfl rfl rfl ?_
    refine P_ld 62 (.int (i32 ((s.2.2.2 124) s.2.1))) rfl (fun _ => rfl) ?_
    refine P_iald2 63 34 (s.2.2.2 34) rfl rfl rfl (rE_i (Cn_a gm 124) rfl _) rfl ?_
    refine P_sto 65 [(6, .int (i32 ((s.2.2.2 34) ((s.2.2.2 124) s.2.1)))), (5, .int (i32 ((s.2.2.2 124) s.2.1))), (0, .ref 189), (1, .int (i32 v1)), (2, .int (i32 s.1)), (3, .int (i32 v3)), (4, .int (i32 s.2.1)), (7, .int (i32 (j 7))), (8, .int (i32 (j 8))), (9, .int (i32 (j 9)))] rfl (fun _ => rfl) ?_
    refine P_ld 66 (.int (i32 0)) rfl (fun _ => rfl) ?_
    refine P_sto 68 [(7, .int (i32 0)), (6, .int (i32 ((s.2.2.2 34) ((s.2.2.2 124) s.2.1)))), (5, .int (i32 ((s.2.2.2 124) s.2.1))), (0, .ref 189), (1, .int (i32 v1)), (2, .int (i32 s.1)), (3, .int (i32 v3)), (4, .int (i32 s.2.1)), (8, .int (i32 (j 8))), (9, .int (i32 (j 9)))] rfl (fun _ => rfl) ?_
    refine P_lv (b := [(0, .ref 189), (1, .int (i32 v1)), (2, .int (i32 s.1)), (3, .int (i32 v3)), (4, .int (i32 s.2.1)), (5, .int (i32 ((s.2.2.2 124) s.2.1))), (6, .int (i32 ((s.2.2.2 34) ((s.2.2.2 124) s.2.1)))), (7, .int (i32 0)), (8, .int (i32 (j 8))), (9, .int (i32 (j 9)))]) rfl rfl ⟨rfl, rfl, rfl, rfl, rfl, rfl, rfl, rfl, rfl, rfl, trivial⟩ ?_
    refine P_bnd ?_
    refine P_whl (fun bb Q2 H1 H2 s9 j9 hs9 => dh_writePacket_68 w c N D v1 v3 s.2.1 ((s.2.2.2 124) s.2.1) ((s.2.2.2 34) ((s.2.2.2 124) s.2.1)) q1 q3 g4 (rE_i (Cn_a gm 124) rfl _) (rE_i (Cn_a gm 34) rfl _) bb Q2 H1 H2 s9 j9 hs9) bb (fun e31 j q32 => ?_) (s.1, 0, s.2.2) (jk [(8, j 8), (9, j 9)]) ⟨g2, (l32 0 rfl), gm⟩
    obtain ⟨q33, q34⟩ := q32
    show PP bb w D pm_340 (177, [(0, .ref 189), (1, .int (i32 v1)), (2, .int (i32 e31.1)), (3, .int (i32 v3)), (4, .int (i32 s.2.1)), (5, .int (i32 (j 5))), (6, .int (i32 (j 6))), (7, .int (i32 (j 7))), (8, .int (i32 (j 8))), (9, .int (i32 (j 9)))], [], (mhp (mO e31.2 [] []) c, N), 0, 0) (QS _ (rfl_writePacket_177 v1 e31.1 v3 s.2.1 e31.2))
    exact dg_writePacket_177 w c N D bb v1 e31.1 v3 s.2.1 q1 q33 q3 g4 e31.2 q34 (jk [(5, j 5), (6, j 6), (7, j 7), (8, j 8), (9, j 9)]) Q2 H1 H2
def rfl_writePacket_35 (v1 : Int) (v2 : Int) (v3 : Int) (m : mR) : Option (Int × mR) :=
  bnd (whl (rfb_writePacket_38 v1 v3) (v2, 0, m)) (fun e35 : Int × mR =>
    rfl_writePacket_183 v1 e35.1 v3 e35.2)
theorem dg_writePacket_35 (w : wX) (c : Nat → Option am_C) (N D : Nat) (bb : Nat) (v1 : Int) (v2 : Int) (v3 : Int) (q1 : R32 v1) (q2 : R32 v2) (q3 : R32 v3) (m : mR) (hm : Cn m) (j : Nat → Int) : PP bb w D pm_340 (35, [(0, .ref 189), (1, .int (i32 v1)), (2, .int (i32 v2)), (3, .int (i32 v3)), (4, .int (i32 (j 4)))], [], (mhp m c, N), 0, 0) (QS (FR0 c N) (rfl_writePacket_35 v1 v2 v3 m)) := by
  unfold rfl_writePacket_35
  show PP bb w D pm_340 (35, [(0, .ref 189), (1, .int (i32 v1)), (2, .int (i32 v2)), (3, .int (i32 v3)), (4, .int (i32 (j 4)))], [], (mhp (mO m [] []) c, N), 0, 0) _
  refine P_ld 36 (.int (i32 0)) rfl (fun _ => rfl) ?_
  refine P_sto 38 [(4, .int (i32 0)), (0, .ref 189), (1, .int (i32 v1)), (2, .int (i32 v2)), (3, .int (i32 v3))] rfl (fun _ => rfl) ?_
  refine P_lv (b := [(0, .ref 189), (1, .int (i32 v1)), (2, .int (i32 v2)), (3, .int (i32 v3)), (4, .int (i32 0)), (5, .int (i32 0)), (6, .int (i32 0)), (7, .int (i32 0)), (8, .int (i32 0)), (9, .int (i32 0))]) rfl rfl ⟨rfl, rfl, rfl, rfl, rfl, trivial⟩ ?_
  refine P_bnd ?_
  refine P_whl (fun bb Q2 H1 H2 s9 j9 hs9 => dh_writePacket_38 w c N D v1 v3 q1 q3 bb Q2 H1 H2 s9 j9 hs9) bb (fun e35 j q36 => ?_) (v2, 0, m) (jk []) ⟨q2, (l32 0 rfl), hm⟩
  obtain ⟨q37, q38⟩ := q36
  show PP bb w D pm_340 (183, [(0, .ref 189), (1, .int (i32 v1)), (2, .int (i32 e35.1)), (3, .int (i32 v3)), (4, .int (i32 (j 4))), (5, .int (i32 (j 5))), (6, .int (i32 (j 6))), (7, .int (i32 (j 7))), (8, .int (i32 (j 8))), (9, .int (i32 (j 9)))], [], (mhp (mO e35.2 [] []) c, N), 0, 0) (QS _ (rfl_writePacket_183 v1 e35.1 v3 e35.2))
  exact dg_writePacket_183 w c N D bb v1 e35.1 v3 q1 q37 q3 e35.2 q38 (jk [(4, j 4), (5, j 5), (6, j 6), (7, j 7), (8, j 8), (9, j 9)])
def rfb_writePacket_11 (v1 : Int) (v2 : Int) (v3 : Int) (s : Int × mR) : Option (Sum (Int × mR) (mR)) :=
  if (896 : Int) ≤ s.1 then
    some (.inr s.2)
  else
    some (.inl (cut (s.1 + 1), (mO s.2 [] [(168, upI (s.2.2 168) (cut (v3 + s.1)) 0)])))
theorem dh_writePacket_11 (w : wX) (c : Nat → Option am_C) (N D : Nat) (v1 : Int) (v2 : Int) (v3 : Int) (q1 : R32 v1) (q2 : R32 v2) (q3 : R32 v3) (bb : Nat) (Q2 : Sum (Int × mR) (mR) → ag_Re af_T → Prop) (H1 : ∀ s j, cs_writePacket_11 s → PP bb w D pm_340 (hd_writePacket_11 c N v1 v2 v3 s j) (Q2 (.inl s))) (H2 : ∀ x j, cx_writePacket_11 x → PP bb w D pm_340 (ex_writePacket_11 c N v1 v2 v3 x j) (Q2 (.inr x))) (s : Int × mR) (j : Nat → Int) (hs : cs_writePacket_11 s) : PP (bb + 1) w D pm_340 (hd_writePacket_11 c N v1 v2 v3 s j) (QS Q2 (rfb_writePacket_11 v1 v2 v3 s)) := by
  obtain ⟨g4, gm⟩ := hs
  unfold rfb_writePacket_11
  show PP (bb + 1) w D pm_340 (11, [(0, .ref 189), (1, .int (i32 v1)), (2, .int (i32 v2)), (3, .int (i32 v3)), (4, .int (i32 s.1))], [], (mhp (mO s.2 [] []) c, N), 0, 0) _
  refine P1_ld 13 (.int (i32 s.1)) rfl (fun _ => rfl) ?_
  refine P_ld 16 (.int (i32 896)) rfl (fun _ => rfl) ?_
  refine P_icF 35 19 rfl rfl rfl g4 (l32 896 rfl) rfl (fun h40 => ?_) (fun h40 => ?_)
  · skip
    refine P_some ?_
    exact H2 s.2 (jk [(4, s.1)]) gm
  · skip
    refine P_gf 23 (.ref 317) rfl rfl rfl rfl rfl rfl ?_
    refine P_ld 24 (.int (i32 v3)) rfl (fun _ => rfl) ?_
    refine P_ld 26 (.int (i32 s.1)) rfl (fun _ => rfl) ?_
    refine P_op 27 (cut (v3 + s.1)) _ rfl (fun _ => rfl) o_add ?_
    refine P_ld 28 (.int (i32 0)) rfl (fun _ => rfl) ?_
    refine P_iast2 (a' := [(168, upI (s.2.2 168) (cut (v3 + s.1)) 0)]) 29 168 (s.2.2 168) rfl rfl rfl cut_r rfl rfl ?_
    refine P_inc 32 [(4, .int (i32 (cut (s.1 + 1)))), (0, .ref 189), (1, .int (i32 v1)), (2, .int (i32 v2)), (3, .int (i32 v3))] rfl rfl (by decide) rfl rfl ?_
    refine P_goto 11 rfl (fun _ => rfl) ?_
    refine P_some ?_
    refine P_lv (b := [(0, .ref 189), (1, .int (i32 v1)), (2, .int (i32 v2)), (3, .int (i32 v3)), (4, .int (i32 (cut (s.1 + 1))))]) rfl rfl ⟨rfl, rfl, rfl, rfl, rfl, trivial⟩ ?_
    exact H1 (cut (s.1 + 1), (mO s.2 [] [(168, upI (s.2.2 168) (cut (v3 + s.1)) 0)])) (jk []) ⟨cut_r, (Cn_mO gm trivial ⟨(rE_ui (Cn_a gm 168) rfl (l32 0 rfl)), trivial⟩)⟩
def rf_writePacket (v1 : Int) (m : mR) : Option (Int × mR) :=
  bnd (whl (rfb_writePacket_11 v1 0 (cut (896 * v1))) (0, m)) (fun e41 : mR =>
    rfl_writePacket_35 v1 0 (cut (896 * v1)) e41)
theorem D_writePacket (w : wX) (m : mR) (c : Nat → Option am_C) (N D : Nat) (hm : Cn m) (v1 : Int) (q1 : R32 v1) : PC w D 340 [.ref 189, .int (i32 v1)] (mhp m c, N) (QS (FR0 c N) (rf_writePacket v1 m)) := by
  refine Pc_of (fun D bb => ?_) D
  unfold rf_writePacket
  show PP bb w D pm_340 (0, [(0, .ref 189), (1, .int (i32 v1))], [], (mhp (mO m [] []) c, N), 0, 0) _
  refine P_ld 1 (.int (i32 0)) rfl (fun _ => rfl) ?_
  refine P_sto 2 [(2, .int (i32 0)), (0, .ref 189), (1, .int (i32 v1))] rfl (fun _ => rfl) ?_
  refine P_ld 5 (.int (i32 896)) rfl (fun _ => rfl) ?_
  refine P_ld 6 (.int (i32 v1)) rfl (fun _ => rfl) ?_
  refine P_op 7 (cut (896 * v1)) _ rfl (fun _ => rfl) o_mul ?_
  refine P_sto 8 [(3, .int (i32 (cut (896 * v1)))), (2, .int (i32 0)), (0, .ref 189), (1, .int (i32 v1))] rfl (fun _ => rfl) ?_
  refine P_ld 9 (.int (i32 0)) rfl (fun _ => rfl) ?_
  refine P_sto 11 [(4, .int (i32 0)), (3, .int (i32 (cut (896 * v1)))), (2, .int (i32 0)), (0, .ref 189), (1, .int (i32 v1))] rfl (fun _ => rfl) ?_
  refine P_lv (b := [(0, .ref 189), (1, .int (i32 v1)), (2, .int (i32 0)), (3, .int (i32 (cut (896 * v1)))), (4, .int (i32 0))]) rfl rfl ⟨rfl, rfl, rfl, rfl, rfl, trivial⟩ ?_
  refine P_bnd ?_
  refine P_whl (fun bb Q2 H1 H2 s9 j9 hs9 => dh_writePacket_11 w c N D v1 0 (cut (896 * v1)) q1 (l32 0 rfl) cut_r bb Q2 H1 H2 s9 j9 hs9) bb (fun e41 j q42 => ?_) (0, m) (jk []) ⟨(l32 0 rfl), hm⟩
  have q43 := q42
  show PP bb w D pm_340 (35, [(0, .ref 189), (1, .int (i32 v1)), (2, .int (i32 0)), (3, .int (i32 (cut (896 * v1)))), (4, .int (i32 (j 4)))], [], (mhp (mO e41 [] []) c, N), 0, 0) (QS _ (rfl_writePacket_35 v1 0 (cut (896 * v1)) e41))
  exact dg_writePacket_35 w c N D bb v1 0 (cut (896 * v1)) q1 (l32 0 rfl) cut_r e41 q43 (jk [(4, j 4)])
def cs_moveDown_48 (s : Int × mR) : Prop := R32 s.1 ∧ Cn s.2
def cx_moveDown_48 : (mR) → Prop := (fun (e : mR) => Cn e)
def hd_moveDown_48 (c : Nat → Option am_C) (N : Nat) (v1 : Int) (s : Int × mR) (j : Nat → Int) : ag_St af_T := (48, [(0, .ref 189), (1, .int (i32 v1)), (2, .int (i32 s.1))], [], (mhp s.2 c, N), 0, 0)
def ex_moveDown_48 (c : Nat → Option am_C) (N : Nat) (v1 : Int) : (mR) → (Nat → Int) → ag_St af_T := (fun (e : mR) (j : Nat → Int) => ((83, [(0, .ref 189), (1, .int (i32 v1)), (2, .int (i32 (j 2)))], [], (mhp e c, N), 0, 0) : ag_St af_T))
def cs_moveDown_129 (s : Int × mR) : Prop := R32 s.1 ∧ Cn s.2
def cx_moveDown_129 : (mR) → Prop := (fun (e : mR) => Cn e)
def hd_moveDown_129 (c : Nat → Option am_C) (N : Nat) (v1 : Int) (s : Int × mR) (j : Nat → Int) : ag_St af_T := (129, [(0, .ref 189), (1, .int (i32 v1)), (2, .int (i32 s.1))], [], (mhp s.2 c, N), 0, 0)
def ex_moveDown_129 (c : Nat → Option am_C) (N : Nat) (v1 : Int) : (mR) → (Nat → Int) → ag_St af_T := (fun (e : mR) (j : Nat → Int) => ((186, [(0, .ref 189), (1, .int (i32 (j 1))), (2, .int (i32 (j 2)))], [], (mhp e c, N), 0, 0) : ag_St af_T))
def rfb_moveDown_129 (v1 : Int) (s : Int × mR) : Option (Sum (Int × mR) (mR)) :=
  if cut ((cut (4 * v1)) + 4) ≤ s.1 then
    some (.inr s.2)
  else
    some (.inl (cut (s.1 + 1), (mO s.2 [] [(160, upI (s.2.2 160) s.1 ((s.2.2 160) (cut (s.1 + 4)))), (161, upI (s.2.2 161) s.1 ((s.2.2 161) (cut (s.1 + 4)))), (162, upI (s.2.2 162) s.1 ((s.2.2 162) (cut (s.1 + 4))))])))
theorem dh_moveDown_129 (w : wX) (c : Nat → Option am_C) (N D : Nat) (v1 : Int) (q1 : R32 v1) (bb : Nat) (Q2 : Sum (Int × mR) (mR) → ag_Re af_T → Prop) (H1 : ∀ s j, cs_moveDown_129 s → PP bb w D pm_341 (hd_moveDown_129 c N v1 s j) (Q2 (.inl s))) (H2 : ∀ x j, cx_moveDown_129 x → PP bb w D pm_341 (ex_moveDown_129 c N v1 x j) (Q2 (.inr x))) (s : Int × mR) (j : Nat → Int) (hs : cs_moveDown_129 s) : PP (bb + 1) w D pm_341 (hd_moveDown_129 c N v1 s j) (QS Q2 (rfb_moveDown_129 v1 s)) := by
  obtain ⟨g2, gm⟩ := hs
  unfold rfb_moveDown_129
  show PP (bb + 1) w D pm_341 (129, [(0, .ref 189), (1, .int (i32 v1)), (2, .int (i32 s.1))], [], (mhp (mO s.2 [] []) c, N), 0, 0) _
  refine P1_ld 130 (.int (i32 s.1)) rfl (fun _ => rfl) ?_
  refine P_ld 131 (.int (i32 4)) rfl (fun _ => rfl) ?_
  refine P_ld 132 (.int (i32 v1)) rfl (fun _ => rfl) ?_
  refine P_op 133 (cut (4 * v1)) _ rfl (fun _ => rfl) o_mul ?_
  refine P_ld 134 (.int (i32 4)) rfl (fun _ => rfl) ?_
  refine P_op 135 (cut ((cut (4 * v1)) + 4)) _ rfl (fun _ => rfl) o_add ?_
  refine P_icF 186 138 rfl rfl rfl g2 cut_r rfl (fun h4 => ?_) (fun h4 => ?_)
  · skip
    refine P_some ?_
    exact H2 s.2 (jk [(1, v1), (2, s.1)]) gm
  · skip
    refine P_gf 142 (.ref 309) rfl rfl rfl rfl rfl rfl ?_
    refine P_ld 143 (.int (i32 s.1)) rfl (fun _ => rfl) ?_
    refine P_gf 147 (.ref 309) rfl rfl rfl rfl rfl rfl ?_
    refine P_ld 148 (.int (i32 s.1)) rfl (fun _ => rfl) ?_
    refine P_ld 149 (.int (i32 4)) rfl (fun _ => rfl) ?_
    refine P_op 150 (cut (s.1 + 4)) _ rfl (fun _ => rfl) o_add ?_
    refine P_lald2 151 160 (s.2.2 160) rfl rfl rfl cut_r rfl ?_
    refine P_last2 (a' := [(160, upI (s.2.2 160) s.1 ((s.2.2 160) (cut (s.1 + 4))))]) 152 160 (s.2.2 160) rfl rfl rfl g2 rfl rfl ?_
    refine P_gf 156 (.ref 310) rfl rfl rfl rfl rfl rfl ?_
    refine P_ld 157 (.int (i32 s.1)) rfl (fun _ => rfl) ?_
    refine P_gf 161 (.ref 310) rfl rfl rfl rfl rfl rfl ?_
    refine P_ld 162 (.int (i32 s.1)) rfl (fun _ => rfl) ?_
    refine P_ld 163 (.int (i32 4)) rfl (fun _ => rfl) ?_
    refine P_op 164 (cut (s.1 + 4)) _ rfl (fun _ => rfl) o_add ?_
    refine P_lald2 165 161 (s.2.2 161) rfl rfl rfl cut_r rfl ?_
    refine P_last2 (a' := [(160, upI (s.2.2 160) s.1 ((s.2.2 160) (cut (s.1 + 4)))), (161, upI (s.2.2 161) s.1 ((s.2.2 161) (cut (s.1 + 4))))]) 166 161 (s.2.2 161) rfl rfl rfl g2 rfl rfl ?_
    refine P_gf 170 (.ref 311) rfl rfl rfl rfl rfl rfl ?_
    refine P_ld 171 (.int (i32 s.1)) rfl (fun _ => rfl) ?_
    refine P_gf 175 (.ref 311) rfl rfl rfl rfl rfl rfl ?_
    refine P_ld 176 (.int (i32 s.1)) rfl (fun _ => rfl) ?_
    refine P_ld 177 (.int (i32 4)) rfl (fun _ => rfl) ?_
    refine P_op 178 (cut (s.1 + 4)) _ rfl (fun _ => rfl) o_add ?_
    refine P_lald2 179 162 (s.2.2 162) rfl rfl rfl cut_r rfl ?_
    refine P_last2 (a' := [(160, upI (s.2.2 160) s.1 ((s.2.2 160) (cut (s.1 + 4)))), (161, upI (s.2.2 161) s.1 ((s.2.2 161) (cut (s.1 + 4)))), (162, upI (s.2.2 162) s.1 ((s.2.2 162) (cut (s.1 + 4))))]) 180 162 (s.2.2 162) rfl rfl rfl g2 rfl rfl ?_
    refine P_inc 183 [(2, .int (i32 (cut (s.1 + 1)))), (0, .ref 189), (1, .int (i32 v1))] rfl rfl (by decide) rfl rfl ?_
    refine P_goto 129 rfl (fun _ => rfl) ?_
    refine P_some ?_
    refine P_lv (b := [(0, .ref 189), (1, .int (i32 v1)), (2, .int (i32 (cut (s.1 + 1))))]) rfl rfl ⟨rfl, rfl, rfl, trivial⟩ ?_
    exact H1 (cut (s.1 + 1), (mO s.2 [] [(160, upI (s.2.2 160) s.1 ((s.2.2 160) (cut (s.1 + 4)))), (161, upI (s.2.2 161) s.1 ((s.2.2 161) (cut (s.1 + 4)))), (162, upI (s.2.2 162) s.1 ((s.2.2 162) (cut (s.1 + 4))))])) (jk []) ⟨cut_r, (Cn_mO gm trivial ⟨(rE_ul (Cn_a gm 160) rfl (rE_l (Cn_a gm 160) rfl _)), (rE_ul (Cn_a gm 161) rfl (rE_l (Cn_a gm 161) rfl _)), (rE_ul (Cn_a gm 162) rfl (rE_l (Cn_a gm 162) rfl _)), trivial⟩)⟩
def rfl_moveDown_83 (v1 : Int) (m : mR) : Option (Int × mR) :=
  bnd (whl (rfb_moveDown_129 v1) (cut (4 * v1), (mO m [] [(156, upI (m.2 156) v1 ((m.2 156) (cut (v1 + 1)))), (157, upI (m.2 157) v1 ((m.2 157) (cut (v1 + 1)))), (158, upI (m.2 158) v1 ((m.2 158) (cut (v1 + 1))))]))) (fun e5 : mR =>
    some (0, e5))
theorem dg_moveDown_83 (w : wX) (c : Nat → Option am_C) (N D : Nat) (bb : Nat) (v1 : Int) (q1 : R32 v1) (m : mR) (hm : Cn m) (j : Nat → Int) : PP bb w D pm_341 (83, [(0, .ref 189), (1, .int (i32 v1)), (2, .int (i32 (j 2)))], [], (mhp m c, N), 0, 0) (QS (FR0 c N) (rfl_moveDown_83 v1 m)) := by
  unfold rfl_moveDown_83
  show PP bb w D pm_341 (83, [(0, .ref 189), (1, .int (i32 v1)), (2, .int (i32 (j 2)))], [], (mhp (mO m [] []) c, N), 0, 0) _
  refine P_gf 87 (.ref 305) rfl rfl rfl rfl rfl rfl ?_
  refine P_ld 88 (.int (i32 v1)) rfl (fun _ => rfl) ?_
  refine P_gf 92 (.ref 305) rfl rfl rfl rfl rfl rfl ?_
  refine P_ld 93 (.int (i32 v1)) rfl (fun _ => rfl) ?_
  refine P_ld 94 (.int (i32 1)) rfl (fun _ => rfl) ?_
  refine P_op 95 (cut (v1 + 1)) _ rfl (fun _ => rfl) o_add ?_
  refine P_iald2 96 156 (m.2 156) rfl rfl rfl cut_r rfl ?_
  refine P_iast2 (a' := [(156, upI (m.2 156) v1 ((m.2 156) (cut (v1 + 1))))]) 97 156 (m.2 156) rfl rfl rfl q1 rfl rfl ?_
  refine P_gf 101 (.ref 306) rfl rfl rfl rfl rfl rfl ?_
  refine P_ld 102 (.int (i32 v1)) rfl (fun _ => rfl) ?_
  refine P_gf 106 (.ref 306) rfl rfl rfl rfl rfl rfl ?_
  refine P_ld 107 (.int (i32 v1)) rfl (fun _ => rfl) ?_
  refine P_ld 108 (.int (i32 1)) rfl (fun _ => rfl) ?_
  refine P_op 109 (cut (v1 + 1)) _ rfl (fun _ => rfl) o_add ?_
  refine P_iald2 110 157 (m.2 157) rfl rfl rfl cut_r rfl ?_
  refine P_iast2 (a' := [(156, upI (m.2 156) v1 ((m.2 156) (cut (v1 + 1)))), (157, upI (m.2 157) v1 ((m.2 157) (cut (v1 + 1))))]) 111 157 (m.2 157) rfl rfl rfl q1 rfl rfl ?_
  refine P_gf 115 (.ref 307) rfl rfl rfl rfl rfl rfl ?_
  refine P_ld 116 (.int (i32 v1)) rfl (fun _ => rfl) ?_
  refine P_gf 120 (.ref 307) rfl rfl rfl rfl rfl rfl ?_
  refine P_ld 121 (.int (i32 v1)) rfl (fun _ => rfl) ?_
  refine P_ld 122 (.int (i32 1)) rfl (fun _ => rfl) ?_
  refine P_op 123 (cut (v1 + 1)) _ rfl (fun _ => rfl) o_add ?_
  refine P_iald2 124 158 (m.2 158) rfl rfl rfl cut_r rfl ?_
  refine P_iast2 (a' := [(156, upI (m.2 156) v1 ((m.2 156) (cut (v1 + 1)))), (157, upI (m.2 157) v1 ((m.2 157) (cut (v1 + 1)))), (158, upI (m.2 158) v1 ((m.2 158) (cut (v1 + 1))))]) 125 158 (m.2 158) rfl rfl rfl q1 rfl rfl ?_
  refine P_ld 126 (.int (i32 4)) rfl (fun _ => rfl) ?_
  refine P_ld 127 (.int (i32 v1)) rfl (fun _ => rfl) ?_
  refine P_op 128 (cut (4 * v1)) _ rfl (fun _ => rfl) o_mul ?_
  refine P_sto 129 [(2, .int (i32 (cut (4 * v1)))), (0, .ref 189), (1, .int (i32 v1))] rfl (fun _ => rfl) ?_
  refine P_lv (b := [(0, .ref 189), (1, .int (i32 v1)), (2, .int (i32 (cut (4 * v1))))]) rfl rfl ⟨rfl, rfl, rfl, trivial⟩ ?_
  refine P_bnd ?_
  refine P_whl (fun bb Q2 H1 H2 s9 j9 hs9 => dh_moveDown_129 w c N D v1 q1 bb Q2 H1 H2 s9 j9 hs9) bb (fun e5 j q6 => ?_) (cut (4 * v1), (mO m [] [(156, upI (m.2 156) v1 ((m.2 156) (cut (v1 + 1)))), (157, upI (m.2 157) v1 ((m.2 157) (cut (v1 + 1)))), (158, upI (m.2 158) v1 ((m.2 158) (cut (v1 + 1))))])) (jk []) ⟨cut_r, (Cn_mO hm trivial ⟨(rE_ui (Cn_a hm 156) rfl (rE_i (Cn_a hm 156) rfl _)), (rE_ui (Cn_a hm 157) rfl (rE_i (Cn_a hm 157) rfl _)), (rE_ui (Cn_a hm 158) rfl (rE_i (Cn_a hm 158) rfl _)), trivial⟩)⟩
  have q7 := q6
  show PP bb w D pm_341 (186, [(0, .ref 189), (1, .int (i32 (j 1))), (2, .int (i32 (j 2)))], [], (mhp (mO e5 [] []) c, N), 0, 0) (QS _ (some (0, e5)))
  exact P_re0 rfl rfl q7
def rfb_moveDown_48 (v1 : Int) (s : Int × mR) : Option (Sum (Int × mR) (mR)) :=
  if cut ((cut (128 * v1)) + 128) ≤ s.1 then
    some (.inr s.2)
  else
    some (.inl (cut (s.1 + 1), (mO s.2 [] [(159, upI (s.2.2 159) s.1 ((s.2.2 159) (cut (s.1 + 128))))])))
theorem dh_moveDown_48 (w : wX) (c : Nat → Option am_C) (N D : Nat) (v1 : Int) (q1 : R32 v1) (bb : Nat) (Q2 : Sum (Int × mR) (mR) → ag_Re af_T → Prop) (H1 : ∀ s j, cs_moveDown_48 s → PP bb w D pm_341 (hd_moveDown_48 c N v1 s j) (Q2 (.inl s))) (H2 : ∀ x j, cx_moveDown_48 x → PP bb w D pm_341 (ex_moveDown_48 c N v1 x j) (Q2 (.inr x))) (s : Int × mR) (j : Nat → Int) (hs : cs_moveDown_48 s) : PP (bb + 1) w D pm_341 (hd_moveDown_48 c N v1 s j) (QS Q2 (rfb_moveDown_48 v1 s)) := by
  obtain ⟨g2, gm⟩ := hs
  unfold rfb_moveDown_48
  show PP (bb + 1) w D pm_341 (48, [(0, .ref 189), (1, .int (i32 v1)), (2, .int (i32 s.1))], [], (mhp (mO s.2 [] []) c, N), 0, 0) _
  refine P1_ld 49 (.int (i32 s.1)) rfl (fun _ => rfl) ?_
  refine P_ld 52 (.int (i32 128)) rfl (fun _ => rfl) ?_
  refine P_ld 53 (.int (i32 v1)) rfl (fun _ => rfl) ?_
  refine P_op 54 (cut (128 * v1)) _ rfl (fun _ => rfl) o_mul ?_
  refine P_ld 57 (.int (i32 128)) rfl (fun _ => rfl) ?_
  refine P_op 58 (cut ((cut (128 * v1)) + 128)) _ rfl (fun _ => rfl) o_add ?_
  refine P_icF 83 61 rfl rfl rfl g2 cut_r rfl (fun h9 => ?_) (fun h9 => ?_)
  · skip
    refine P_some ?_
    exact H2 s.2 (jk [(2, s.1)]) gm
  · skip
    refine P_gf 65 (.ref 308) rfl rfl rfl rfl rfl rfl ?_
    refine P_ld 66 (.int (i32 s.1)) rfl (fun _ => rfl) ?_
    refine P_gf 70 (.ref 308) rfl rfl rfl rfl rfl rfl ?_
    refine P_ld 71 (.int (i32 s.1)) rfl (fun _ => rfl) ?_
    refine P_ld 74 (.int (i32 128)) rfl (fun _ => rfl) ?_
    refine P_op 75 (cut (s.1 + 128)) _ rfl (fun _ => rfl) o_add ?_
    refine P_iald2 76 159 (s.2.2 159) rfl rfl rfl cut_r rfl ?_
    refine P_iast2 (a' := [(159, upI (s.2.2 159) s.1 ((s.2.2 159) (cut (s.1 + 128))))]) 77 159 (s.2.2 159) rfl rfl rfl g2 rfl rfl ?_
    refine P_inc 80 [(2, .int (i32 (cut (s.1 + 1)))), (0, .ref 189), (1, .int (i32 v1))] rfl rfl (by decide) rfl rfl ?_
    refine P_goto 48 rfl (fun _ => rfl) ?_
    refine P_some ?_
    refine P_lv (b := [(0, .ref 189), (1, .int (i32 v1)), (2, .int (i32 (cut (s.1 + 1))))]) rfl rfl ⟨rfl, rfl, rfl, trivial⟩ ?_
    exact H1 (cut (s.1 + 1), (mO s.2 [] [(159, upI (s.2.2 159) s.1 ((s.2.2 159) (cut (s.1 + 128))))])) (jk []) ⟨cut_r, (Cn_mO gm trivial ⟨(rE_ui (Cn_a gm 159) rfl (rE_i (Cn_a gm 159) rfl _)), trivial⟩)⟩
def rf_moveDown (v1 : Int) (m : mR) : Option (Int × mR) :=
  bnd (whl (rfb_moveDown_48 v1) (cut (128 * v1), (mO m [] [(153, upI (m.2 153) v1 ((m.2 153) (cut (v1 + 1)))), (154, upI (m.2 154) v1 ((m.2 154) (cut (v1 + 1)))), (155, upI (m.2 155) v1 ((m.2 155) (cut (v1 + 1))))]))) (fun e10 : mR =>
    rfl_moveDown_83 v1 e10)
theorem D_moveDown (w : wX) (m : mR) (c : Nat → Option am_C) (N D : Nat) (hm : Cn m) (v1 : Int) (q1 : R32 v1) : PC w D 341 [.ref 189, .int (i32 v1)] (mhp m c, N) (QS (FR0 c N) (rf_moveDown v1 m)) := by
  refine Pc_of (fun D bb => ?_) D
  unfold rf_moveDown
  show PP bb w D pm_341 (0, [(0, .ref 189), (1, .int (i32 v1))], [], (mhp (mO m [] []) c, N), 0, 0) _
  refine P_gf 4 (.ref 302) rfl rfl rfl rfl rfl rfl ?_
  refine P_ld 5 (.int (i32 v1)) rfl (fun _ => rfl) ?_
  refine P_gf 9 (.ref 302) rfl rfl rfl rfl rfl rfl ?_
  refine P_ld 10 (.int (i32 v1)) rfl (fun _ => rfl) ?_
  refine P_ld 11 (.int (i32 1)) rfl (fun _ => rfl) ?_
  refine P_op 12 (cut (v1 + 1)) _ rfl (fun _ => rfl) o_add ?_
  refine P_iald2 13 153 (m.2 153) rfl rfl rfl cut_r rfl ?_
  refine P_iast2 (a' := [(153, upI (m.2 153) v1 ((m.2 153) (cut (v1 + 1))))]) 14 153 (m.2 153) rfl rfl rfl q1 rfl rfl ?_
  refine P_gf 18 (.ref 303) rfl rfl rfl rfl rfl rfl ?_
  refine P_ld 19 (.int (i32 v1)) rfl (fun _ => rfl) ?_
  refine P_gf 23 (.ref 303) rfl rfl rfl rfl rfl rfl ?_
  refine P_ld 24 (.int (i32 v1)) rfl (fun _ => rfl) ?_
  refine P_ld 25 (.int (i32 1)) rfl (fun _ => rfl) ?_
  refine P_op 26 (cut (v1 + 1)) _ rfl (fun _ => rfl) o_add ?_
  refine P_iald2 27 154 (m.2 154) rfl rfl rfl cut_r rfl ?_
  refine P_iast2 (a' := [(153, upI (m.2 153) v1 ((m.2 153) (cut (v1 + 1)))), (154, upI (m.2 154) v1 ((m.2 154) (cut (v1 + 1))))]) 28 154 (m.2 154) rfl rfl rfl q1 rfl rfl ?_
  refine P_gf 32 (.ref 304) rfl rfl rfl rfl rfl rfl ?_
  refine P_ld 33 (.int (i32 v1)) rfl (fun _ => rfl) ?_
  refine P_gf 37 (.ref 304) rfl rfl rfl rfl rfl rfl ?_
  refine P_ld 38 (.int (i32 v1)) rfl (fun _ => rfl) ?_
  refine P_ld 39 (.int (i32 1)) rfl (fun _ => rfl) ?_
  refine P_op 40 (cut (v1 + 1)) _ rfl (fun _ => rfl) o_add ?_
  refine P_iald2 41 155 (m.2 155) rfl rfl rfl cut_r rfl ?_
  refine P_iast2 (a' := [(153, upI (m.2 153) v1 ((m.2 153) (cut (v1 + 1)))), (154, upI (m.2 154) v1 ((m.2 154) (cut (v1 + 1)))), (155, upI (m.2 155) v1 ((m.2 155) (cut (v1 + 1))))]) 42 155 (m.2 155) rfl rfl rfl q1 rfl rfl ?_
  refine P_ld 45 (.int (i32 128)) rfl (fun _ => rfl) ?_
  refine P_ld 46 (.int (i32 v1)) rfl (fun _ => rfl) ?_
  refine P_op 47 (cut (128 * v1)) _ rfl (fun _ => rfl) o_mul ?_
  refine P_sto 48 [(2, .int (i32 (cut (128 * v1)))), (0, .ref 189), (1, .int (i32 v1))] rfl (fun _ => rfl) ?_
  refine P_lv (b := [(0, .ref 189), (1, .int (i32 v1)), (2, .int (i32 (cut (128 * v1))))]) rfl rfl ⟨rfl, rfl, rfl, trivial⟩ ?_
  refine P_bnd ?_
  refine P_whl (fun bb Q2 H1 H2 s9 j9 hs9 => dh_moveDown_48 w c N D v1 q1 bb Q2 H1 H2 s9 j9 hs9) bb (fun e10 j q11 => ?_) (cut (128 * v1), (mO m [] [(153, upI (m.2 153) v1 ((m.2 153) (cut (v1 + 1)))), (154, upI (m.2 154) v1 ((m.2 154) (cut (v1 + 1)))), (155, upI (m.2 155) v1 ((m.2 155) (cut (v1 + 1))))])) (jk []) ⟨cut_r, (Cn_mO hm trivial ⟨(rE_ui (Cn_a hm 153) rfl (rE_i (Cn_a hm 153) rfl _)), (rE_ui (Cn_a hm 154) rfl (rE_i (Cn_a hm 154) rfl _)), (rE_ui (Cn_a hm 155) rfl (rE_i (Cn_a hm 155) rfl _)), trivial⟩)⟩
  have q12 := q11
  show PP bb w D pm_341 (83, [(0, .ref 189), (1, .int (i32 v1)), (2, .int (i32 (j 2)))], [], (mhp (mO e10 [] []) c, N), 0, 0) (QS _ (rfl_moveDown_83 v1 e10))
  exact dg_moveDown_83 w c N D bb v1 q1 e10 q12 (jk [(2, j 2)])
end X55BG
