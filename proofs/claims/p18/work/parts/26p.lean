noncomputable section X26P
def cs_memoryOf_27 (s : Int × Int) : Prop := R32 s.1 ∧ R32 s.2
def cx_memoryOf_27 : (Int) → Prop := (fun (e : Int) => R32 e)
def hd_memoryOf_27 (c : Nat → Option am_C) (N : Nat) (v2 : Int) (m : mR) (s : Int × Int) (j : Nat → Int) : ag_St af_T := (27, [(0, .ref 189), (1, .int (i32 (j 1))), (2, .int (i32 v2)), (3, .int (i32 s.1)), (4, .int (i32 s.2)), (5, .int (i32 (j 5)))], [], (mhp m c, N), 0, 0)
def ex_memoryOf_27 (c : Nat → Option am_C) (N : Nat) (v2 : Int) (m : mR) : (Int) → (Nat → Int) → ag_St af_T := (fun (e : Int) (j : Nat → Int) => ((90, [(0, .ref 189), (1, .int (i32 (j 1))), (2, .int (i32 v2)), (3, .int (i32 e)), (4, .int (i32 (j 4))), (5, .int (i32 (j 5)))], [], (mhp m c, N), 0, 0) : ag_St af_T))
def rfl_memoryOf_147 (v2 : Int) (v3 : Int) (u0 : Int) (u1 : Int) (m : mR) : Option Int :=
  some (cutl (u0 * (cut ((cut ((cut (u1 * ((m.2 52) v2))) + v3)) + 8))))
theorem dg_memoryOf_147 (w : wX) (c : Nat → Option am_C) (N D : Nat) (bb : Nat) (v2 : Int) (v3 : Int) (u0 : Int) (u1 : Int) (q2 : R32 v2) (q3 : R32 v3) (r0 : R64 u0) (r1 : R32 u1) (m : mR) (hm : Cn m) (j : Nat → Int) : PP bb w D pm_300 (147, [(0, .ref 189), (1, .int (i32 (j 1))), (2, .int (i32 v2)), (3, .int (i32 v3)), (4, .int (i32 (j 4))), (5, .int (i32 (j 5)))], [.int (i32 u1), .long (i64 u0)], (mhp m c, N), 0, 0) (QS (FP2 (mhp m c, N)) (rfl_memoryOf_147 v2 v3 u0 u1 m)) := by
  unfold rfl_memoryOf_147
  show PP bb w D pm_300 (147, [(0, .ref 189), (1, .int (i32 (j 1))), (2, .int (i32 v2)), (3, .int (i32 v3)), (4, .int (i32 (j 4))), (5, .int (i32 (j 5)))], [.int (i32 u1), .long (i64 u0)], (mhp (mO m [] []) c, N), 0, 0) _
  refine P_gf 151 (.ref 222) rfl rfl rfl rfl rfl rfl ?_
  refine P_ld 152 (.int (i32 v2)) rfl (fun _ => rfl) ?_
  refine P_iald2 153 52 (m.2 52) rfl rfl rfl q2 rfl ?_
  refine P_op 154 (cut (u1 * ((m.2 52) v2))) _ rfl (fun _ => rfl) o_mul ?_
  refine P_ld 155 (.int (i32 v3)) rfl (fun _ => rfl) ?_
  refine P_op 156 (cut ((cut (u1 * ((m.2 52) v2))) + v3)) _ rfl (fun _ => rfl) o_add ?_
  refine P_ld 158 (.int (i32 8)) rfl (fun _ => rfl) ?_
  refine P_op 159 (cut ((cut ((cut (u1 * ((m.2 52) v2))) + v3)) + 8)) _ rfl (fun _ => rfl) o_add ?_
  refine P_opl 160 (cut ((cut ((cut (u1 * ((m.2 52) v2))) + v3)) + 8)) _ rfl (fun _ => rfl) (o_i2l cut_r) ?_
  refine P_opl 161 (cutl (u0 * (cut ((cut ((cut (u1 * ((m.2 52) v2))) + v3)) + 8)))) _ rfl (fun _ => rfl) p_mul ?_
  exact P_rp2 rfl rfl cutl_r
def rfl_memoryOf_128 (v2 : Int) (v3 : Int) (u0 : Int) (m : mR) : Option Int :=
  if (m.2 58) v2 = 0 then
    rfl_memoryOf_147 v2 v3 u0 2 m
  else
    rfl_memoryOf_147 v2 v3 u0 1 m
theorem dg_memoryOf_128 (w : wX) (c : Nat → Option am_C) (N D : Nat) (bb : Nat) (v2 : Int) (v3 : Int) (u0 : Int) (q2 : R32 v2) (q3 : R32 v3) (r0 : R32 u0) (m : mR) (hm : Cn m) (j : Nat → Int) : PP bb w D pm_300 (128, [(0, .ref 189), (1, .int (i32 (j 1))), (2, .int (i32 v2)), (3, .int (i32 v3)), (4, .int (i32 (j 4))), (5, .int (i32 (j 5)))], [.int (i32 u0)], (mhp m c, N), 0, 0) (QS (FP2 (mhp m c, N)) (rfl_memoryOf_128 v2 v3 u0 m)) := by
  unfold rfl_memoryOf_128
  show PP bb w D pm_300 (128, [(0, .ref 189), (1, .int (i32 (j 1))), (2, .int (i32 v2)), (3, .int (i32 v3)), (4, .int (i32 (j 4))), (5, .int (i32 (j 5)))], [.int (i32 u0)], (mhp (mO m [] []) c, N), 0, 0) _
  refine P_sto 130 [(4, .int (i32 u0)), (0, .ref 189), (1, .int (i32 (j 1))), (2, .int (i32 v2)), (3, .int (i32 v3)), (5, .int (i32 (j 5)))] rfl (fun _ => rfl) ?_
  refine P_ld 132 (.int (i32 u0)) rfl (fun _ => rfl) ?_
  refine P_opl 133 u0 _ rfl (fun _ => rfl) (o_i2l r0) ?_
  refine P_gf 137 (.ref 228) rfl rfl rfl rfl rfl rfl ?_
  refine P_ld 138 (.int (i32 v2)) rfl (fun _ => rfl) ?_
  refine P_bald2 139 58 (m.2 58) rfl rfl rfl q2 rfl ?_
  refine P_ifF 146 142 rfl rfl rfl (rE_i (Cn_a hm 58) rfl _) rfl (fun h2 => ?_) (fun h2 => ?_)
  · skip
    refine P_ld 147 (.int (i32 2)) rfl (fun _ => rfl) ?_
    refine P_lv (b := [(0, .ref 189), (1, .int (i32 (j 1))), (2, .int (i32 v2)), (3, .int (i32 v3)), (4, .int (i32 u0)), (5, .int (i32 (j 5)))]) rfl rfl ⟨rfl, rfl, rfl, rfl, rfl, rfl, trivial⟩ ?_
    exact dg_memoryOf_147 w c N D bb v2 v3 u0 2 q2 q3 (R32_64 r0) (l32 2 rfl) m hm (jk [(1, j 1), (4, u0), (5, j 5)])
  · skip
    refine P_ld 143 (.int (i32 1)) rfl (fun _ => rfl) ?_
    refine P_goto 147 rfl (fun _ => rfl) ?_
    refine P_lv (b := [(0, .ref 189), (1, .int (i32 (j 1))), (2, .int (i32 v2)), (3, .int (i32 v3)), (4, .int (i32 u0)), (5, .int (i32 (j 5)))]) rfl rfl ⟨rfl, rfl, rfl, rfl, rfl, rfl, trivial⟩ ?_
    exact dg_memoryOf_147 w c N D bb v2 v3 u0 1 q2 q3 (R32_64 r0) (l32 1 rfl) m hm (jk [(1, j 1), (4, u0), (5, j 5)])
def rfl_memoryOf_90 (v2 : Int) (v3 : Int) (m : mR) : Option Int :=
  if (m.2 58) v2 = 0 then
    rfl_memoryOf_128 v2 v3 ((m.2 54) v2) m
  else
    rfl_memoryOf_128 v2 v3 (cut ((cut (((m.2 54) v2) * ((m.2 55) v2))) + ((m.2 56) v2))) m
theorem dg_memoryOf_90 (w : wX) (c : Nat → Option am_C) (N D : Nat) (bb : Nat) (v2 : Int) (v3 : Int) (q2 : R32 v2) (q3 : R32 v3) (m : mR) (hm : Cn m) (j : Nat → Int) : PP bb w D pm_300 (90, [(0, .ref 189), (1, .int (i32 (j 1))), (2, .int (i32 v2)), (3, .int (i32 v3)), (4, .int (i32 (j 4))), (5, .int (i32 (j 5)))], [], (mhp m c, N), 0, 0) (QS (FP2 (mhp m c, N)) (rfl_memoryOf_90 v2 v3 m)) := by
  unfold rfl_memoryOf_90
  show PP bb w D pm_300 (90, [(0, .ref 189), (1, .int (i32 (j 1))), (2, .int (i32 v2)), (3, .int (i32 v3)), (4, .int (i32 (j 4))), (5, .int (i32 (j 5)))], [], (mhp (mO m [] []) c, N), 0, 0) _
  refine P_gf 94 (.ref 228) rfl rfl rfl rfl rfl rfl ?_
  refine P_ld 95 (.int (i32 v2)) rfl (fun _ => rfl) ?_
  refine P_bald2 96 58 (m.2 58) rfl rfl rfl q2 rfl ?_
  refine P_ifF 122 99 rfl rfl rfl (rE_i (Cn_a hm 58) rfl _) rfl (fun h3 => ?_) (fun h3 => ?_)
  · skip
    refine P_gf 126 (.ref 224) rfl rfl rfl rfl rfl rfl ?_
    refine P_ld 127 (.int (i32 v2)) rfl (fun _ => rfl) ?_
    refine P_iald2 128 54 (m.2 54) rfl rfl rfl q2 rfl ?_
    exact dg_memoryOf_128 w c N D bb v2 v3 ((m.2 54) v2) q2 q3 (rE_i (Cn_a hm 54) rfl _) m hm (jk [(1, j 1), (4, j 4), (5, j 5)])
  · skip
    refine P_gf 103 (.ref 224) rfl rfl rfl rfl rfl rfl ?_
    refine P_ld 104 (.int (i32 v2)) rfl (fun _ => rfl) ?_
    refine P_iald2 105 54 (m.2 54) rfl rfl rfl q2 rfl ?_
    refine P_gf 109 (.ref 225) rfl rfl rfl rfl rfl rfl ?_
    refine P_ld 110 (.int (i32 v2)) rfl (fun _ => rfl) ?_
    refine P_iald2 111 55 (m.2 55) rfl rfl rfl q2 rfl ?_
    refine P_op 112 (cut (((m.2 54) v2) * ((m.2 55) v2))) _ rfl (fun _ => rfl) o_mul ?_
    refine P_gf 116 (.ref 226) rfl rfl rfl rfl rfl rfl ?_
    refine P_ld 117 (.int (i32 v2)) rfl (fun _ => rfl) ?_
    refine P_iald2 118 56 (m.2 56) rfl rfl rfl q2 rfl ?_
    refine P_op 119 (cut ((cut (((m.2 54) v2) * ((m.2 55) v2))) + ((m.2 56) v2))) _ rfl (fun _ => rfl) o_add ?_
    refine P_goto 128 rfl (fun _ => rfl) ?_
    exact dg_memoryOf_128 w c N D bb v2 v3 (cut ((cut (((m.2 54) v2) * ((m.2 55) v2))) + ((m.2 56) v2))) q2 q3 cut_r m hm (jk [(1, j 1), (4, j 4), (5, j 5)])
def rfl_memoryOf_83 (v2 : Int) (v4 : Int) (u0 : Int) (m : mR) : Option (Sum (Int × Int) (Int)) :=
  some (.inl (u0, cut (v4 + 1)))
theorem dg_memoryOf_83 (w : wX) (c : Nat → Option am_C) (N D : Nat) (bb : Nat) (v2 : Int) (v4 : Int) (u0 : Int) (q2 : R32 v2) (q4 : R32 v4) (r0 : R32 u0) (m : mR) (hm : Cn m) (j : Nat → Int) (Q2 : Sum (Int × Int) (Int) → ag_Re af_T → Prop) (H1 : ∀ s j, cs_memoryOf_27 s → PP bb w D pm_300 (hd_memoryOf_27 c N v2 m s j) (Q2 (.inl s))) (H2 : ∀ x j, cx_memoryOf_27 x → PP bb w D pm_300 (ex_memoryOf_27 c N v2 m x j) (Q2 (.inr x))) : PP bb w D pm_300 (83, [(0, .ref 189), (1, .int (i32 (j 1))), (2, .int (i32 v2)), (3, .int (i32 (j 3))), (4, .int (i32 v4)), (5, .int (i32 (j 5)))], [.int (i32 u0)], (mhp m c, N), 0, 0) (QS Q2 (rfl_memoryOf_83 v2 v4 u0 m)) := by
  unfold rfl_memoryOf_83
  show PP bb w D pm_300 (83, [(0, .ref 189), (1, .int (i32 (j 1))), (2, .int (i32 v2)), (3, .int (i32 (j 3))), (4, .int (i32 v4)), (5, .int (i32 (j 5)))], [.int (i32 u0)], (mhp (mO m [] []) c, N), 0, 0) _
  refine P_sto 84 [(3, .int (i32 u0)), (0, .ref 189), (1, .int (i32 (j 1))), (2, .int (i32 v2)), (4, .int (i32 v4)), (5, .int (i32 (j 5)))] rfl (fun _ => rfl) ?_
  refine P_inc 87 [(4, .int (i32 (cut (v4 + 1)))), (3, .int (i32 u0)), (0, .ref 189), (1, .int (i32 (j 1))), (2, .int (i32 v2)), (5, .int (i32 (j 5)))] rfl rfl (by decide) rfl rfl ?_
  refine P_goto 27 rfl (fun _ => rfl) ?_
  refine P_some ?_
  refine P_lv (b := [(0, .ref 189), (1, .int (i32 (j 1))), (2, .int (i32 v2)), (3, .int (i32 u0)), (4, .int (i32 (cut (v4 + 1)))), (5, .int (i32 (j 5)))]) rfl rfl ⟨rfl, rfl, rfl, rfl, rfl, rfl, trivial⟩ ?_
  exact H1 (u0, cut (v4 + 1)) (jk [(1, j 1), (5, j 5)]) ⟨r0, cut_r⟩
def rfb_memoryOf_27 (v2 : Int) (m : mR) (s : Int × Int) : Option (Sum (Int × Int) (Int)) :=
  if cut ((cut (8 * v2)) + ((m.2 53) v2)) ≤ s.2 then
    some (.inr s.1)
  else
    bnd (rf_bitsOfParameters ((m.2 46) ((m.2 114) s.2)) ((m.2 114) s.2) m) fun y6 =>
    if y6 ≤ s.1 then
      rfl_memoryOf_83 v2 s.2 s.1 m
    else
      rfl_memoryOf_83 v2 s.2 y6 m
theorem dh_memoryOf_27 (w : wX) (c : Nat → Option am_C) (N D : Nat) (v2 : Int) (q2 : R32 v2) (m : mR) (hm : Cn m) (bb : Nat) (Q2 : Sum (Int × Int) (Int) → ag_Re af_T → Prop) (H1 : ∀ s j, cs_memoryOf_27 s → PP bb w D pm_300 (hd_memoryOf_27 c N v2 m s j) (Q2 (.inl s))) (H2 : ∀ x j, cx_memoryOf_27 x → PP bb w D pm_300 (ex_memoryOf_27 c N v2 m x j) (Q2 (.inr x))) (s : Int × Int) (j : Nat → Int) (hs : cs_memoryOf_27 s) : PP (bb + 1) w D pm_300 (hd_memoryOf_27 c N v2 m s j) (QS Q2 (rfb_memoryOf_27 v2 m s)) := by
  obtain ⟨g3, g4⟩ := hs
  unfold rfb_memoryOf_27
  show PP (bb + 1) w D pm_300 (27, [(0, .ref 189), (1, .int (i32 (j 1))), (2, .int (i32 v2)), (3, .int (i32 s.1)), (4, .int (i32 s.2)), (5, .int (i32 (j 5)))], [], (mhp (mO m [] []) c, N), 0, 0) _
  refine P1_ld 29 (.int (i32 s.2)) rfl (fun _ => rfl) ?_
  refine P_ld 31 (.int (i32 8)) rfl (fun _ => rfl) ?_
  refine P_ld 32 (.int (i32 v2)) rfl (fun _ => rfl) ?_
  refine P_op 33 (cut (8 * v2)) _ rfl (fun _ => rfl) o_mul ?_
  refine P_gf 37 (.ref 223) rfl rfl rfl rfl rfl rfl ?_
  refine P_ld 38 (.int (i32 v2)) rfl (fun _ => rfl) ?_
  refine P_iald2 39 53 (m.2 53) rfl rfl rfl q2 rfl ?_
  refine P_op 40 (cut ((cut (8 * v2)) + ((m.2 53) v2))) _ rfl (fun _ => rfl) o_add ?_
  refine P_icF 90 43 rfl rfl rfl g4 cut_r rfl (fun h5 => ?_) (fun h5 => ?_)
  · skip
    refine P_some ?_
    exact H2 s.1 (jk [(1, j 1), (4, s.2), (5, j 5)]) g3
  · skip
    refine P_gf 47 (.ref 219) rfl rfl rfl rfl rfl rfl ?_
    refine P_gf 51 (.ref 216) rfl rfl rfl rfl rfl rfl ?_
    refine P_gf 55 (.ref 274) rfl rfl rfl rfl rfl rfl ?_
    refine P_ld 57 (.int (i32 s.2)) rfl (fun _ => rfl) ?_
    refine P_iald2 58 114 (m.2 114) rfl rfl rfl g4 rfl ?_
    refine P_iald2 59 46 (m.2 46) rfl rfl rfl (rE_i (Cn_a hm 114) rfl _) rfl ?_
    refine P_gf 63 (.ref 274) rfl rfl rfl rfl rfl rfl ?_
    refine P_ld 65 (.int (i32 s.2)) rfl (fun _ => rfl) ?_
    refine P_iald2 66 114 (m.2 114) rfl rfl rfl g4 rfl ?_
    refine P_cp1 69 301 [.ref 219, .int (i32 ((m.2 46) ((m.2 114) s.2))), .int (i32 ((m.2 114) s.2))] [] rfl (fun _ => rfl) rfl (D_bitsOfParameters w m c N D hm ((m.2 46) ((m.2 114) s.2)) ((m.2 114) s.2) (rE_i (Cn_a hm 46) rfl _) (rE_i (Cn_a hm 114) rfl _)) (fun y6 h7 => ?_)
    refine P_sto 71 [(5, .int (i32 y6)), (0, .ref 189), (1, .int (i32 (j 1))), (2, .int (i32 v2)), (3, .int (i32 s.1)), (4, .int (i32 s.2))] rfl (fun _ => rfl) ?_
    refine P_ld 73 (.int (i32 y6)) rfl (fun _ => rfl) ?_
    refine P_ld 74 (.int (i32 s.1)) rfl (fun _ => rfl) ?_
    refine P_icF 82 77 rfl rfl rfl h7 g3 rfl (fun h8 => ?_) (fun h8 => ?_)
    · skip
      refine P_ld 83 (.int (i32 s.1)) rfl (fun _ => rfl) ?_
      refine P_lv (b := [(0, .ref 189), (1, .int (i32 (j 1))), (2, .int (i32 v2)), (3, .int (i32 s.1)), (4, .int (i32 s.2)), (5, .int (i32 y6))]) rfl rfl ⟨rfl, rfl, rfl, rfl, rfl, rfl, trivial⟩ ?_
      exact dg_memoryOf_83 w c N D bb v2 s.2 s.1 q2 g4 g3 m hm (jk [(1, j 1), (3, s.1), (5, y6)]) Q2 H1 H2
    · skip
      refine P_ld 79 (.int (i32 y6)) rfl (fun _ => rfl) ?_
      refine P_goto 83 rfl (fun _ => rfl) ?_
      refine P_lv (b := [(0, .ref 189), (1, .int (i32 (j 1))), (2, .int (i32 v2)), (3, .int (i32 s.1)), (4, .int (i32 s.2)), (5, .int (i32 y6))]) rfl rfl ⟨rfl, rfl, rfl, rfl, rfl, rfl, trivial⟩ ?_
      exact dg_memoryOf_83 w c N D bb v2 s.2 y6 q2 g4 h7 m hm (jk [(1, j 1), (3, s.1), (5, y6)]) Q2 H1 H2
def rf_memoryOf (v1 : Int) (m : mR) : Option Int :=
  if (m.2 60) v1 = 2 then
    bnd (whl (rfb_memoryOf_27 ((m.2 63) v1) m) (0, cut (8 * ((m.2 63) v1)))) (fun e10 : Int =>
      rfl_memoryOf_90 ((m.2 63) v1) e10 m)
  else
    some 0
theorem D_memoryOf (w : wX) (m : mR) (c : Nat → Option am_C) (N D : Nat) (hm : Cn m) (v1 : Int) (q1 : R32 v1) : PC w D 300 [.ref 189, .int (i32 v1)] (mhp m c, N) (QS (FP2 (mhp m c, N)) (rf_memoryOf v1 m)) := by
  refine Pc_of (fun D bb => ?_) D
  unfold rf_memoryOf
  show PP bb w D pm_300 (0, [(0, .ref 189), (1, .int (i32 v1))], [], (mhp (mO m [] []) c, N), 0, 0) _
  refine P_gf 4 (.ref 230) rfl rfl rfl rfl rfl rfl ?_
  refine P_ld 5 (.int (i32 v1)) rfl (fun _ => rfl) ?_
  refine P_iald2 6 60 (m.2 60) rfl rfl rfl q1 rfl ?_
  refine P_ld 7 (.int (i32 2)) rfl (fun _ => rfl) ?_
  refine P_icF 12 10 rfl rfl rfl (rE_i (Cn_a hm 60) rfl _) (l32 2 rfl) rfl (fun h9 => ?_) (fun h9 => ?_)
  · skip
    refine P_gf 16 (.ref 233) rfl rfl rfl rfl rfl rfl ?_
    refine P_ld 17 (.int (i32 v1)) rfl (fun _ => rfl) ?_
    refine P_iald2 18 63 (m.2 63) rfl rfl rfl q1 rfl ?_
    refine P_sto 19 [(2, .int (i32 ((m.2 63) v1))), (0, .ref 189), (1, .int (i32 v1))] rfl (fun _ => rfl) ?_
    refine P_ld 20 (.int (i32 0)) rfl (fun _ => rfl) ?_
    refine P_sto 21 [(3, .int (i32 0)), (2, .int (i32 ((m.2 63) v1))), (0, .ref 189), (1, .int (i32 v1))] rfl (fun _ => rfl) ?_
    refine P_ld 23 (.int (i32 8)) rfl (fun _ => rfl) ?_
    refine P_ld 24 (.int (i32 ((m.2 63) v1))) rfl (fun _ => rfl) ?_
    refine P_op 25 (cut (8 * ((m.2 63) v1))) _ rfl (fun _ => rfl) o_mul ?_
    refine P_sto 27 [(4, .int (i32 (cut (8 * ((m.2 63) v1))))), (3, .int (i32 0)), (2, .int (i32 ((m.2 63) v1))), (0, .ref 189), (1, .int (i32 v1))] rfl (fun _ => rfl) ?_
    refine P_lv (b := [(0, .ref 189), (1, .int (i32 v1)), (2, .int (i32 ((m.2 63) v1))), (3, .int (i32 0)), (4, .int (i32 (cut (8 * ((m.2 63) v1))))), (5, .int (i32 0))]) rfl rfl ⟨rfl, rfl, rfl, rfl, rfl, trivial⟩ ?_
    refine P_bnd ?_
    refine P_whl (fun bb Q2 H1 H2 s9 j9 hs9 => dh_memoryOf_27 w c N D ((m.2 63) v1) (rE_i (Cn_a hm 63) rfl _) m hm bb Q2 H1 H2 s9 j9 hs9) bb (fun e10 j q11 => ?_) (0, cut (8 * ((m.2 63) v1))) (jk [(1, v1)]) ⟨(l32 0 rfl), cut_r⟩
    have q12 := q11
    show PP bb w D pm_300 (90, [(0, .ref 189), (1, .int (i32 (j 1))), (2, .int (i32 ((m.2 63) v1))), (3, .int (i32 e10)), (4, .int (i32 (j 4))), (5, .int (i32 (j 5)))], [], (mhp (mO m [] []) c, N), 0, 0) (QS _ (rfl_memoryOf_90 ((m.2 63) v1) e10 m))
    exact dg_memoryOf_90 w c N D bb ((m.2 63) v1) e10 (rE_i (Cn_a hm 63) rfl _) q12 m hm (jk [(1, j 1), (4, j 4), (5, j 5)])
  · skip
    refine P_ld 11 (.long (i64 0)) rfl (fun _ => rfl) ?_
    exact P_rp2 rfl rfl (l64 0 rfl)
def rfl_wiresOf_26 (u0 : Int) (m : mR) : Option Int :=
  some u0
theorem dg_wiresOf_26 (w : wX) (c : Nat → Option am_C) (N D : Nat) (bb : Nat) (u0 : Int) (r0 : R64 u0) (m : mR) (hm : Cn m) (j : Nat → Int) : PP bb w D pm_302 (26, [(0, .ref 189), (1, .int (i32 (j 1)))], [.long (i64 u0)], (mhp m c, N), 0, 0) (QS (FP2 (mhp m c, N)) (rfl_wiresOf_26 u0 m)) := by
  unfold rfl_wiresOf_26
  show PP bb w D pm_302 (26, [(0, .ref 189), (1, .int (i32 (j 1)))], [.long (i64 u0)], (mhp (mO m [] []) c, N), 0, 0) _
  exact P_rp2 rfl rfl r0
def rf_wiresOf (v1 : Int) (m : mR) : Option Int :=
  if (m.2 60) v1 = 2 then
    rfl_wiresOf_26 ((m.2 52) ((m.2 63) v1)) m
  else
    rfl_wiresOf_26 0 m
theorem D_wiresOf (w : wX) (m : mR) (c : Nat → Option am_C) (N D : Nat) (hm : Cn m) (v1 : Int) (q1 : R32 v1) : PC w D 302 [.ref 189, .int (i32 v1)] (mhp m c, N) (QS (FP2 (mhp m c, N)) (rf_wiresOf v1 m)) := by
  refine Pc_of (fun D bb => ?_) D
  unfold rf_wiresOf
  show PP bb w D pm_302 (0, [(0, .ref 189), (1, .int (i32 v1))], [], (mhp (mO m [] []) c, N), 0, 0) _
  refine P_gf 4 (.ref 230) rfl rfl rfl rfl rfl rfl ?_
  refine P_ld 5 (.int (i32 v1)) rfl (fun _ => rfl) ?_
  refine P_iald2 6 60 (m.2 60) rfl rfl rfl q1 rfl ?_
  refine P_ld 7 (.int (i32 2)) rfl (fun _ => rfl) ?_
  refine P_icE 25 10 rfl rfl rfl (rE_i (Cn_a hm 60) rfl _) (l32 2 rfl) rfl (fun h1 => ?_) (fun h1 => ?_)
  · skip
    refine P_gf 14 (.ref 222) rfl rfl rfl rfl rfl rfl ?_
    refine P_gf 18 (.ref 233) rfl rfl rfl rfl rfl rfl ?_
    refine P_ld 19 (.int (i32 v1)) rfl (fun _ => rfl) ?_
    refine P_iald2 20 63 (m.2 63) rfl rfl rfl q1 rfl ?_
    refine P_iald2 21 52 (m.2 52) rfl rfl rfl (rE_i (Cn_a hm 63) rfl _) rfl ?_
    refine P_opl 22 ((m.2 52) ((m.2 63) v1)) _ rfl (fun _ => rfl) (o_i2l (rE_i (Cn_a hm 52) rfl _)) ?_
    refine P_goto 26 rfl (fun _ => rfl) ?_
    exact dg_wiresOf_26 w c N D bb ((m.2 52) ((m.2 63) v1)) (R32_64 (rE_i (Cn_a hm 52) rfl _)) m hm (jk [(1, v1)])
  · skip
    refine P_ld 26 (.long (i64 0)) rfl (fun _ => rfl) ?_
    exact dg_wiresOf_26 w c N D bb 0 (l64 0 rfl) m hm (jk [(1, v1)])
def cs_stageFor_12 (s : Int × Int × Int × Int) : Prop := R32 s.1 ∧ R32 s.2.1 ∧ R32 s.2.2.1 ∧ R32 s.2.2.2
def cx_stageFor_12 : (Int × Int × Int) → Prop := (fun (e : Int × Int × Int) => R32 e.1 ∧ R32 e.2.1 ∧ R32 e.2.2)
def hd_stageFor_12 (c : Nat → Option am_C) (N : Nat) (v1 : Int) (v2 : Int) (v3 : Int) (v5 : Int) (m : mR) (s : Int × Int × Int × Int) (j : Nat → Int) : ag_St af_T := (12, [(0, .ref 189), (1, .int (i32 v1)), (2, .int (i32 v2)), (3, .long (i64 v3)), (5, .long (i64 v5)), (7, .int (i32 s.1)), (8, .int (i32 s.2.1)), (9, .int (i32 s.2.2.1)), (10, .int (i32 s.2.2.2)), (11, .int (i32 (j 11))), (12, .int (i32 (j 12)))], [], (mhp m c, N), 0, 0)
def ex_stageFor_12 (c : Nat → Option am_C) (N : Nat) (v1 : Int) (v2 : Int) (v3 : Int) (v5 : Int) (m : mR) : (Int × Int × Int) → (Nat → Int) → ag_St af_T := (fun (e : Int × Int × Int) (j : Nat → Int) => ((135, [(0, .ref 189), (1, .int (i32 v1)), (2, .int (i32 v2)), (3, .long (i64 v3)), (5, .long (i64 v5)), (7, .int (i32 e.1)), (8, .int (i32 e.2.1)), (9, .int (i32 e.2.2)), (10, .int (i32 (j 10))), (11, .int (i32 (j 11))), (12, .int (i32 (j 12)))], [], (mhp m c, N), 0, 0) : ag_St af_T))
def cs_stageFor_146 (s : Int) : Prop := R32 s
def cx_stageFor_146 : (Sum (Int) (Unit)) → Prop := (sel (fun (e : Int) => R32 e) (fun (e : Unit) => True))
def hd_stageFor_146 (c : Nat → Option am_C) (N : Nat) (v1 : Int) (v2 : Int) (v3 : Int) (v5 : Int) (v8 : Int) (m : mR) (s : Int) (j : Nat → Int) : ag_St af_T := (146, [(0, .ref 189), (1, .int (i32 v1)), (2, .int (i32 v2)), (3, .long (i64 v3)), (5, .long (i64 v5)), (7, .int (i32 (j 7))), (8, .int (i32 v8)), (9, .int (i32 (j 9))), (10, .int (i32 s)), (11, .int (i32 (j 11))), (12, .int (i32 (j 12)))], [], (mhp m c, N), 0, 0)
def ex_stageFor_146 (c : Nat → Option am_C) (N : Nat) (v1 : Int) (v2 : Int) (v3 : Int) (v5 : Int) (v8 : Int) (m : mR) : (Sum (Int) (Unit)) → (Nat → Int) → ag_St af_T := (sel (fun (e : Int) (j : Nat → Int) => ((213, [(0, .ref 189), (1, .int (i32 (j 1))), (2, .int (i32 (j 2))), (3, .long (i64 (j 3))), (5, .long (i64 (j 5))), (7, .int (i32 (j 7))), (8, .int (i32 (j 8))), (9, .int (i32 (j 9))), (10, .int (i32 e)), (11, .int (i32 (j 11))), (12, .int (i32 (j 12)))], [], (mhp m c, N), 0, 0) : ag_St af_T)) (fun (e : Unit) (j : Nat → Int) => ((222, [(0, .ref 189), (1, .int (i32 (j 1))), (2, .int (i32 (j 2))), (3, .long (i64 (j 3))), (5, .long (i64 (j 5))), (7, .int (i32 (j 7))), (8, .int (i32 (j 8))), (9, .int (i32 (j 9))), (10, .int (i32 (j 10))), (11, .int (i32 (j 11))), (12, .int (i32 (j 12)))], [], (mhp m c, N), 0, 0) : ag_St af_T)))
def rfl_stageFor_216 (v1 : Int) (v2 : Int) (v3 : Int) (v5 : Int) (v8 : Int) (v10 : Int) (m : mR) : Option (Sum (Int) (Sum (Int) (Unit))) :=
  some (.inl (cut (v10 + 1)))
theorem dg_stageFor_216 (w : wX) (c : Nat → Option am_C) (N D : Nat) (bb : Nat) (v1 : Int) (v2 : Int) (v3 : Int) (v5 : Int) (v8 : Int) (v10 : Int) (q1 : R32 v1) (q2 : R32 v2) (q3 : R64 v3) (q5 : R64 v5) (q8 : R32 v8) (q10 : R32 v10) (m : mR) (hm : Cn m) (j : Nat → Int) (Q2 : Sum (Int) (Sum (Int) (Unit)) → ag_Re af_T → Prop) (H1 : ∀ s j, cs_stageFor_146 s → PP bb w D pm_295 (hd_stageFor_146 c N v1 v2 v3 v5 v8 m s j) (Q2 (.inl s))) (H2 : ∀ x j, cx_stageFor_146 x → PP bb w D pm_295 (ex_stageFor_146 c N v1 v2 v3 v5 v8 m x j) (Q2 (.inr x))) : PP bb w D pm_295 (216, [(0, .ref 189), (1, .int (i32 v1)), (2, .int (i32 v2)), (3, .long (i64 v3)), (5, .long (i64 v5)), (7, .int (i32 (j 7))), (8, .int (i32 v8)), (9, .int (i32 (j 9))), (10, .int (i32 v10)), (11, .int (i32 (j 11))), (12, .int (i32 (j 12)))], [], (mhp m c, N), 0, 0) (QS Q2 (rfl_stageFor_216 v1 v2 v3 v5 v8 v10 m)) := by
  unfold rfl_stageFor_216
  show PP bb w D pm_295 (216, [(0, .ref 189), (1, .int (i32 v1)), (2, .int (i32 v2)), (3, .long (i64 v3)), (5, .long (i64 v5)), (7, .int (i32 (j 7))), (8, .int (i32 v8)), (9, .int (i32 (j 9))), (10, .int (i32 v10)), (11, .int (i32 (j 11))), (12, .int (i32 (j 12)))], [], (mhp (mO m [] []) c, N), 0, 0) _
  refine P_inc 219 [(10, .int (i32 (cut (v10 + 1)))), (0, .ref 189), (1, .int (i32 v1)), (2, .int (i32 v2)), (3, .long (i64 v3)), (5, .long (i64 v5)), (7, .int (i32 (j 7))), (8, .int (i32 v8)), (9, .int (i32 (j 9))), (11, .int (i32 (j 11))), (12, .int (i32 (j 12)))] rfl rfl (by decide) rfl rfl ?_
  refine P_goto 146 rfl (fun _ => rfl) ?_
  refine P_some ?_
  refine P_lv (b := [(0, .ref 189), (1, .int (i32 v1)), (2, .int (i32 v2)), (3, .long (i64 v3)), (5, .long (i64 v5)), (7, .int (i32 (j 7))), (8, .int (i32 v8)), (9, .int (i32 (j 9))), (10, .int (i32 (cut (v10 + 1)))), (11, .int (i32 (j 11))), (12, .int (i32 (j 12)))]) rfl rfl ⟨rfl, rfl, rfl, rfl, rfl, rfl, rfl, rfl, rfl, rfl, rfl, trivial⟩ ?_
  exact H1 (cut (v10 + 1)) (jk [(7, j 7), (9, j 9), (11, j 11), (12, j 12)]) cut_r
def rfl_stageFor_164 (v1 : Int) (v2 : Int) (v3 : Int) (v5 : Int) (v8 : Int) (v10 : Int) (m : mR) : Option (Sum (Int) (Sum (Int) (Unit))) :=
  if (8 : Int) ≤ (m.2 132) v10 then
    rfl_stageFor_216 v1 v2 v3 v5 v8 v10 m
  else
    bnd (rf_memoryOf v1 m) fun y6 =>
    if (0 : Int) < cmp64 (cutl (((m.2 133) v10) + y6)) v3 then
      rfl_stageFor_216 v1 v2 v3 v5 v8 v10 m
    else
      bnd (rf_wiresOf v1 m) fun y9 =>
      if (0 : Int) < cmp64 (cutl (((m.2 134) v10) + y9)) v5 then
        rfl_stageFor_216 v1 v2 v3 v5 v8 v10 m
      else
        some (.inr (.inl v10))
theorem dg_stageFor_164 (w : wX) (c : Nat → Option am_C) (N D : Nat) (bb : Nat) (v1 : Int) (v2 : Int) (v3 : Int) (v5 : Int) (v8 : Int) (v10 : Int) (q1 : R32 v1) (q2 : R32 v2) (q3 : R64 v3) (q5 : R64 v5) (q8 : R32 v8) (q10 : R32 v10) (m : mR) (hm : Cn m) (j : Nat → Int) (Q2 : Sum (Int) (Sum (Int) (Unit)) → ag_Re af_T → Prop) (H1 : ∀ s j, cs_stageFor_146 s → PP bb w D pm_295 (hd_stageFor_146 c N v1 v2 v3 v5 v8 m s j) (Q2 (.inl s))) (H2 : ∀ x j, cx_stageFor_146 x → PP bb w D pm_295 (ex_stageFor_146 c N v1 v2 v3 v5 v8 m x j) (Q2 (.inr x))) : PP bb w D pm_295 (164, [(0, .ref 189), (1, .int (i32 v1)), (2, .int (i32 v2)), (3, .long (i64 v3)), (5, .long (i64 v5)), (7, .int (i32 (j 7))), (8, .int (i32 v8)), (9, .int (i32 (j 9))), (10, .int (i32 v10)), (11, .int (i32 (j 11))), (12, .int (i32 (j 12)))], [], (mhp m c, N), 0, 0) (QS Q2 (rfl_stageFor_164 v1 v2 v3 v5 v8 v10 m)) := by
  unfold rfl_stageFor_164
  show PP bb w D pm_295 (164, [(0, .ref 189), (1, .int (i32 v1)), (2, .int (i32 v2)), (3, .long (i64 v3)), (5, .long (i64 v5)), (7, .int (i32 (j 7))), (8, .int (i32 v8)), (9, .int (i32 (j 9))), (10, .int (i32 v10)), (11, .int (i32 (j 11))), (12, .int (i32 (j 12)))], [], (mhp (mO m [] []) c, N), 0, 0) _
  refine P_gf 168 (.ref 286) rfl rfl rfl rfl rfl rfl ?_
  refine P_ld 170 (.int (i32 v10)) rfl (fun _ => rfl) ?_
  refine P_iald2 171 132 (m.2 132) rfl rfl rfl q10 rfl ?_
  refine P_ld 173 (.int (i32 8)) rfl (fun _ => rfl) ?_
  refine P_icF 216 176 rfl rfl rfl (rE_i (Cn_a hm 132) rfl _) (l32 8 rfl) rfl (fun h5 => ?_) (fun h5 => ?_)
  · skip
    exact dg_stageFor_216 w c N D bb v1 v2 v3 v5 v8 v10 q1 q2 q3 q5 q8 q10 m hm (jk [(7, j 7), (9, j 9), (11, j 11), (12, j 12)]) Q2 H1 H2
  · skip
    refine P_gf 180 (.ref 287) rfl rfl rfl rfl rfl rfl ?_
    refine P_ld 182 (.int (i32 v10)) rfl (fun _ => rfl) ?_
    refine P_lald2 183 133 (m.2 133) rfl rfl rfl q10 rfl ?_
    refine P_ld 184 (.ref 189) rfl (fun _ => rfl) ?_
    refine P_ld 185 (.int (i32 v1)) rfl (fun _ => rfl) ?_
    refine P_cp2 188 300 [.ref 189, .int (i32 v1)] [.long (i64 ((m.2 133) v10))] rfl (fun _ => rfl) rfl (D_memoryOf w m c N D hm v1 q1) (fun y6 h7 => ?_)
    refine P_opl 189 (cutl (((m.2 133) v10) + y6)) _ rfl (fun _ => rfl) p_add ?_
    refine P_ld 190 (.long (i64 v3)) rfl (fun _ => rfl) ?_
    refine P_op 191 (cmp64 (cutl (((m.2 133) v10) + y6)) v3) _ rfl (fun _ => rfl) (o_cmp cutl_r q3) ?_
    refine P_ifF 216 194 rfl rfl rfl cmp64_r rfl (fun h8 => ?_) (fun h8 => ?_)
    · skip
      exact dg_stageFor_216 w c N D bb v1 v2 v3 v5 v8 v10 q1 q2 q3 q5 q8 q10 m hm (jk [(7, j 7), (9, j 9), (11, j 11), (12, j 12)]) Q2 H1 H2
    · skip
      refine P_gf 198 (.ref 288) rfl rfl rfl rfl rfl rfl ?_
      refine P_ld 200 (.int (i32 v10)) rfl (fun _ => rfl) ?_
      refine P_lald2 201 134 (m.2 134) rfl rfl rfl q10 rfl ?_
      refine P_ld 202 (.ref 189) rfl (fun _ => rfl) ?_
      refine P_ld 203 (.int (i32 v1)) rfl (fun _ => rfl) ?_
      refine P_cp2 206 302 [.ref 189, .int (i32 v1)] [.long (i64 ((m.2 134) v10))] rfl (fun _ => rfl) rfl (D_wiresOf w m c N D hm v1 q1) (fun y9 h10 => ?_)
      refine P_opl 207 (cutl (((m.2 134) v10) + y9)) _ rfl (fun _ => rfl) p_add ?_
      refine P_ld 209 (.long (i64 v5)) rfl (fun _ => rfl) ?_
      refine P_op 210 (cmp64 (cutl (((m.2 134) v10) + y9)) v5) _ rfl (fun _ => rfl) (o_cmp cutl_r q5) ?_
      refine P_ifF 216 213 rfl rfl rfl cmp64_r rfl (fun h11 => ?_) (fun h11 => ?_)
      · skip
        exact dg_stageFor_216 w c N D bb v1 v2 v3 v5 v8 v10 q1 q2 q3 q5 q8 q10 m hm (jk [(7, j 7), (9, j 9), (11, j 11), (12, j 12)]) Q2 H1 H2
      · skip
        refine P_some ?_
        exact H2 (.inl v10) (jk [(1, v1), (2, v2), (3, v3), (5, v5), (7, j 7), (8, v8), (9, j 9), (11, j 11), (12, j 12)]) q10
def rfb_stageFor_146 (v1 : Int) (v2 : Int) (v3 : Int) (v5 : Int) (v8 : Int) (m : mR) (s : Int) : Option (Sum (Int) (Sum (Int) (Unit))) :=
  if v2 ≤ s then
    some (.inr (.inr ()))
  else
    if v8 < 0 then
      rfl_stageFor_164 v1 v2 v3 v5 v8 s m
    else
      if s = v8 then
        rfl_stageFor_164 v1 v2 v3 v5 v8 s m
      else
        rfl_stageFor_216 v1 v2 v3 v5 v8 s m
theorem dh_stageFor_146 (w : wX) (c : Nat → Option am_C) (N D : Nat) (v1 : Int) (v2 : Int) (v3 : Int) (v5 : Int) (v8 : Int) (q1 : R32 v1) (q2 : R32 v2) (q3 : R64 v3) (q5 : R64 v5) (q8 : R32 v8) (m : mR) (hm : Cn m) (bb : Nat) (Q2 : Sum (Int) (Sum (Int) (Unit)) → ag_Re af_T → Prop) (H1 : ∀ s j, cs_stageFor_146 s → PP bb w D pm_295 (hd_stageFor_146 c N v1 v2 v3 v5 v8 m s j) (Q2 (.inl s))) (H2 : ∀ x j, cx_stageFor_146 x → PP bb w D pm_295 (ex_stageFor_146 c N v1 v2 v3 v5 v8 m x j) (Q2 (.inr x))) (s : Int) (j : Nat → Int) (hs : cs_stageFor_146 s) : PP (bb + 1) w D pm_295 (hd_stageFor_146 c N v1 v2 v3 v5 v8 m s j) (QS Q2 (rfb_stageFor_146 v1 v2 v3 v5 v8 m s)) := by
  have g10 := hs
  unfold rfb_stageFor_146
  show PP (bb + 1) w D pm_295 (146, [(0, .ref 189), (1, .int (i32 v1)), (2, .int (i32 v2)), (3, .long (i64 v3)), (5, .long (i64 v5)), (7, .int (i32 (j 7))), (8, .int (i32 v8)), (9, .int (i32 (j 9))), (10, .int (i32 s)), (11, .int (i32 (j 11))), (12, .int (i32 (j 12)))], [], (mhp (mO m [] []) c, N), 0, 0) _
  refine P1_ld 148 (.int (i32 s)) rfl (fun _ => rfl) ?_
  refine P_ld 149 (.int (i32 v2)) rfl (fun _ => rfl) ?_
  refine P_icF 222 152 rfl rfl rfl g10 q2 rfl (fun h13 => ?_) (fun h13 => ?_)
  · skip
    refine P_some ?_
    exact H2 (.inr ()) (jk [(1, v1), (2, v2), (3, v3), (5, v5), (7, j 7), (8, v8), (9, j 9), (10, s), (11, j 11), (12, j 12)]) trivial
  · skip
    refine P_ld 154 (.int (i32 v8)) rfl (fun _ => rfl) ?_
    refine P_ifF 164 157 rfl rfl rfl q8 rfl (fun h14 => ?_) (fun h14 => ?_)
    · skip
      exact dg_stageFor_164 w c N D bb v1 v2 v3 v5 v8 s q1 q2 q3 q5 q8 g10 m hm (jk [(7, j 7), (9, j 9), (11, j 11), (12, j 12)]) Q2 H1 H2
    · skip
      refine P_ld 159 (.int (i32 s)) rfl (fun _ => rfl) ?_
      refine P_ld 161 (.int (i32 v8)) rfl (fun _ => rfl) ?_
      refine P_icE 216 164 rfl rfl rfl g10 q8 rfl (fun h15 => ?_) (fun h15 => ?_)
      · skip
        exact dg_stageFor_164 w c N D bb v1 v2 v3 v5 v8 s q1 q2 q3 q5 q8 g10 m hm (jk [(7, j 7), (9, j 9), (11, j 11), (12, j 12)]) Q2 H1 H2
      · skip
        exact dg_stageFor_216 w c N D bb v1 v2 v3 v5 v8 s q1 q2 q3 q5 q8 g10 m hm (jk [(7, j 7), (9, j 9), (11, j 11), (12, j 12)]) Q2 H1 H2
def rfl_stageFor_135 (v1 : Int) (v2 : Int) (v3 : Int) (v5 : Int) (v7 : Int) (v8 : Int) (v9 : Int) (m : mR) : Option Int :=
  if v9 = 0 then
    some (-1)
  else
    bnd (whl (rfb_stageFor_146 v1 v2 v3 v5 v8 m) v7) (sel
      (fun e17 : Int =>
        some e17)
      (fun e20 : Unit =>
        some (-1)))
theorem dg_stageFor_135 (w : wX) (c : Nat → Option am_C) (N D : Nat) (bb : Nat) (v1 : Int) (v2 : Int) (v3 : Int) (v5 : Int) (v7 : Int) (v8 : Int) (v9 : Int) (q1 : R32 v1) (q2 : R32 v2) (q3 : R64 v3) (q5 : R64 v5) (q7 : R32 v7) (q8 : R32 v8) (q9 : R32 v9) (m : mR) (hm : Cn m) (j : Nat → Int) : PP bb w D pm_295 (135, [(0, .ref 189), (1, .int (i32 v1)), (2, .int (i32 v2)), (3, .long (i64 v3)), (5, .long (i64 v5)), (7, .int (i32 v7)), (8, .int (i32 v8)), (9, .int (i32 v9)), (10, .int (i32 (j 10))), (11, .int (i32 (j 11))), (12, .int (i32 (j 12)))], [], (mhp m c, N), 0, 0) (QS (FP1 (mhp m c, N)) (rfl_stageFor_135 v1 v2 v3 v5 v7 v8 v9 m)) := by
  unfold rfl_stageFor_135
  show PP bb w D pm_295 (135, [(0, .ref 189), (1, .int (i32 v1)), (2, .int (i32 v2)), (3, .long (i64 v3)), (5, .long (i64 v5)), (7, .int (i32 v7)), (8, .int (i32 v8)), (9, .int (i32 v9)), (10, .int (i32 (j 10))), (11, .int (i32 (j 11))), (12, .int (i32 (j 12)))], [], (mhp (mO m [] []) c, N), 0, 0) _
  refine P_ld 137 (.int (i32 v9)) rfl (fun _ => rfl) ?_
  refine P_ifE 142 140 rfl rfl rfl q9 rfl (fun h16 => ?_) (fun h16 => ?_)
  · skip
    refine P_ld 141 (.int (i32 (-1))) rfl (fun _ => rfl) ?_
    exact P_rp1 rfl (l32 (-1) rfl)
  · skip
    refine P_ld 144 (.int (i32 v7)) rfl (fun _ => rfl) ?_
    refine P_sto 146 [(10, .int (i32 v7)), (0, .ref 189), (1, .int (i32 v1)), (2, .int (i32 v2)), (3, .long (i64 v3)), (5, .long (i64 v5)), (7, .int (i32 v7)), (8, .int (i32 v8)), (9, .int (i32 v9)), (11, .int (i32 (j 11))), (12, .int (i32 (j 12)))] rfl (fun _ => rfl) ?_
    refine P_lv (b := [(0, .ref 189), (1, .int (i32 v1)), (2, .int (i32 v2)), (3, .long (i64 v3)), (5, .long (i64 v5)), (7, .int (i32 v7)), (8, .int (i32 v8)), (9, .int (i32 v9)), (10, .int (i32 v7)), (11, .int (i32 (j 11))), (12, .int (i32 (j 12)))]) rfl rfl ⟨rfl, rfl, rfl, rfl, rfl, rfl, rfl, rfl, rfl, rfl, rfl, trivial⟩ ?_
    refine P_bnd ?_
    refine P_whl (fun bb Q2 H1 H2 s9 j9 hs9 => dh_stageFor_146 w c N D v1 v2 v3 v5 v8 q1 q2 q3 q5 q8 m hm bb Q2 H1 H2 s9 j9 hs9) bb (fun x0 j hx0 => ?_) v7 (jk [(7, v7), (9, v9), (11, j 11), (12, j 12)]) q7
    cases x0 with
    | inl e17 =>
      have q18 := hx0
      have q19 := q18
      show PP bb w D pm_295 (213, [(0, .ref 189), (1, .int (i32 (j 1))), (2, .int (i32 (j 2))), (3, .long (i64 (j 3))), (5, .long (i64 (j 5))), (7, .int (i32 (j 7))), (8, .int (i32 (j 8))), (9, .int (i32 (j 9))), (10, .int (i32 e17)), (11, .int (i32 (j 11))), (12, .int (i32 (j 12)))], [], (mhp (mO m [] []) c, N), 0, 0) (QS _ (some e17))
      refine P_ld 215 (.int (i32 e17)) rfl (fun _ => rfl) ?_
      exact P_rp1 rfl q19
    | inr e20 =>
      have q21 := hx0
      show PP bb w D pm_295 (222, [(0, .ref 189), (1, .int (i32 (j 1))), (2, .int (i32 (j 2))), (3, .long (i64 (j 3))), (5, .long (i64 (j 5))), (7, .int (i32 (j 7))), (8, .int (i32 (j 8))), (9, .int (i32 (j 9))), (10, .int (i32 (j 10))), (11, .int (i32 (j 11))), (12, .int (i32 (j 12)))], [], (mhp (mO m [] []) c, N), 0, 0) (QS _ (some (-1)))
      refine P_ld 223 (.int (i32 (-1))) rfl (fun _ => rfl) ?_
      exact P_rp1 rfl (l32 (-1) rfl)
def rfl_stageFor_129 (v1 : Int) (v2 : Int) (v3 : Int) (v5 : Int) (v7 : Int) (v8 : Int) (v9 : Int) (v10 : Int) (m : mR) : Option (Sum (Int × Int × Int × Int) (Int × Int × Int)) :=
  some (.inl (v7, v8, v9, cut (v10 + 1)))
theorem dg_stageFor_129 (w : wX) (c : Nat → Option am_C) (N D : Nat) (bb : Nat) (v1 : Int) (v2 : Int) (v3 : Int) (v5 : Int) (v7 : Int) (v8 : Int) (v9 : Int) (v10 : Int) (q1 : R32 v1) (q2 : R32 v2) (q3 : R64 v3) (q5 : R64 v5) (q7 : R32 v7) (q8 : R32 v8) (q9 : R32 v9) (q10 : R32 v10) (m : mR) (hm : Cn m) (j : Nat → Int) (Q2 : Sum (Int × Int × Int × Int) (Int × Int × Int) → ag_Re af_T → Prop) (H1 : ∀ s j, cs_stageFor_12 s → PP bb w D pm_295 (hd_stageFor_12 c N v1 v2 v3 v5 m s j) (Q2 (.inl s))) (H2 : ∀ x j, cx_stageFor_12 x → PP bb w D pm_295 (ex_stageFor_12 c N v1 v2 v3 v5 m x j) (Q2 (.inr x))) : PP bb w D pm_295 (129, [(0, .ref 189), (1, .int (i32 v1)), (2, .int (i32 v2)), (3, .long (i64 v3)), (5, .long (i64 v5)), (7, .int (i32 v7)), (8, .int (i32 v8)), (9, .int (i32 v9)), (10, .int (i32 v10)), (11, .int (i32 (j 11))), (12, .int (i32 (j 12)))], [], (mhp m c, N), 0, 0) (QS Q2 (rfl_stageFor_129 v1 v2 v3 v5 v7 v8 v9 v10 m)) := by
  unfold rfl_stageFor_129
  show PP bb w D pm_295 (129, [(0, .ref 189), (1, .int (i32 v1)), (2, .int (i32 v2)), (3, .long (i64 v3)), (5, .long (i64 v5)), (7, .int (i32 v7)), (8, .int (i32 v8)), (9, .int (i32 v9)), (10, .int (i32 v10)), (11, .int (i32 (j 11))), (12, .int (i32 (j 12)))], [], (mhp (mO m [] []) c, N), 0, 0) _
  refine P_inc 132 [(10, .int (i32 (cut (v10 + 1)))), (0, .ref 189), (1, .int (i32 v1)), (2, .int (i32 v2)), (3, .long (i64 v3)), (5, .long (i64 v5)), (7, .int (i32 v7)), (8, .int (i32 v8)), (9, .int (i32 v9)), (11, .int (i32 (j 11))), (12, .int (i32 (j 12)))] rfl rfl (by decide) rfl rfl ?_
  refine P_goto 12 rfl (fun _ => rfl) ?_
  refine P_some ?_
  refine P_lv (b := [(0, .ref 189), (1, .int (i32 v1)), (2, .int (i32 v2)), (3, .long (i64 v3)), (5, .long (i64 v5)), (7, .int (i32 v7)), (8, .int (i32 v8)), (9, .int (i32 v9)), (10, .int (i32 (cut (v10 + 1)))), (11, .int (i32 (j 11))), (12, .int (i32 (j 12)))]) rfl rfl ⟨rfl, rfl, rfl, rfl, rfl, rfl, rfl, rfl, rfl, rfl, rfl, trivial⟩ ?_
  exact H1 (v7, v8, v9, cut (v10 + 1)) (jk [(11, j 11), (12, j 12)]) ⟨q7, q8, q9, cut_r⟩
def rfl_stageFor_123 (v1 : Int) (v2 : Int) (v3 : Int) (v5 : Int) (v7 : Int) (v10 : Int) (v11 : Int) (u0 : Int) (m : mR) : Option (Sum (Int × Int × Int × Int) (Int × Int × Int)) :=
  rfl_stageFor_129 v1 v2 v3 v5 v7 v11 u0 v10 m
theorem dg_stageFor_123 (w : wX) (c : Nat → Option am_C) (N D : Nat) (bb : Nat) (v1 : Int) (v2 : Int) (v3 : Int) (v5 : Int) (v7 : Int) (v10 : Int) (v11 : Int) (u0 : Int) (q1 : R32 v1) (q2 : R32 v2) (q3 : R64 v3) (q5 : R64 v5) (q7 : R32 v7) (q10 : R32 v10) (q11 : R32 v11) (r0 : R32 u0) (m : mR) (hm : Cn m) (j : Nat → Int) (Q2 : Sum (Int × Int × Int × Int) (Int × Int × Int) → ag_Re af_T → Prop) (H1 : ∀ s j, cs_stageFor_12 s → PP bb w D pm_295 (hd_stageFor_12 c N v1 v2 v3 v5 m s j) (Q2 (.inl s))) (H2 : ∀ x j, cx_stageFor_12 x → PP bb w D pm_295 (ex_stageFor_12 c N v1 v2 v3 v5 m x j) (Q2 (.inr x))) : PP bb w D pm_295 (123, [(0, .ref 189), (1, .int (i32 v1)), (2, .int (i32 v2)), (3, .long (i64 v3)), (5, .long (i64 v5)), (7, .int (i32 v7)), (8, .int (i32 (j 8))), (9, .int (i32 (j 9))), (10, .int (i32 v10)), (11, .int (i32 v11)), (12, .int (i32 (j 12)))], [.int (i32 u0)], (mhp m c, N), 0, 0) (QS Q2 (rfl_stageFor_123 v1 v2 v3 v5 v7 v10 v11 u0 m)) := by
  unfold rfl_stageFor_123
  show PP bb w D pm_295 (123, [(0, .ref 189), (1, .int (i32 v1)), (2, .int (i32 v2)), (3, .long (i64 v3)), (5, .long (i64 v5)), (7, .int (i32 v7)), (8, .int (i32 (j 8))), (9, .int (i32 (j 9))), (10, .int (i32 v10)), (11, .int (i32 v11)), (12, .int (i32 (j 12)))], [.int (i32 u0)], (mhp (mO m [] []) c, N), 0, 0) _
  refine P_sto 125 [(9, .int (i32 u0)), (0, .ref 189), (1, .int (i32 v1)), (2, .int (i32 v2)), (3, .long (i64 v3)), (5, .long (i64 v5)), (7, .int (i32 v7)), (8, .int (i32 (j 8))), (10, .int (i32 v10)), (11, .int (i32 v11)), (12, .int (i32 (j 12)))] rfl (fun _ => rfl) ?_
  refine P_ld 127 (.int (i32 v11)) rfl (fun _ => rfl) ?_
  refine P_sto 129 [(8, .int (i32 v11)), (9, .int (i32 u0)), (0, .ref 189), (1, .int (i32 v1)), (2, .int (i32 v2)), (3, .long (i64 v3)), (5, .long (i64 v5)), (7, .int (i32 v7)), (10, .int (i32 v10)), (11, .int (i32 v11)), (12, .int (i32 (j 12)))] rfl (fun _ => rfl) ?_
  refine P_lv (b := [(0, .ref 189), (1, .int (i32 v1)), (2, .int (i32 v2)), (3, .long (i64 v3)), (5, .long (i64 v5)), (7, .int (i32 v7)), (8, .int (i32 v11)), (9, .int (i32 u0)), (10, .int (i32 v10)), (11, .int (i32 v11)), (12, .int (i32 (j 12)))]) rfl rfl ⟨rfl, rfl, rfl, rfl, rfl, rfl, rfl, rfl, rfl, rfl, rfl, trivial⟩ ?_
  exact dg_stageFor_129 w c N D bb v1 v2 v3 v5 v7 v11 u0 v10 q1 q2 q3 q5 q7 q11 r0 q10 m hm (jk [(11, v11), (12, j 12)]) Q2 H1 H2
def rfl_stageFor_122 (v1 : Int) (v2 : Int) (v3 : Int) (v5 : Int) (v7 : Int) (v10 : Int) (v11 : Int) (m : mR) : Option (Sum (Int × Int × Int × Int) (Int × Int × Int)) :=
  rfl_stageFor_123 v1 v2 v3 v5 v7 v10 v11 0 m
theorem dg_stageFor_122 (w : wX) (c : Nat → Option am_C) (N D : Nat) (bb : Nat) (v1 : Int) (v2 : Int) (v3 : Int) (v5 : Int) (v7 : Int) (v10 : Int) (v11 : Int) (q1 : R32 v1) (q2 : R32 v2) (q3 : R64 v3) (q5 : R64 v5) (q7 : R32 v7) (q10 : R32 v10) (q11 : R32 v11) (m : mR) (hm : Cn m) (j : Nat → Int) (Q2 : Sum (Int × Int × Int × Int) (Int × Int × Int) → ag_Re af_T → Prop) (H1 : ∀ s j, cs_stageFor_12 s → PP bb w D pm_295 (hd_stageFor_12 c N v1 v2 v3 v5 m s j) (Q2 (.inl s))) (H2 : ∀ x j, cx_stageFor_12 x → PP bb w D pm_295 (ex_stageFor_12 c N v1 v2 v3 v5 m x j) (Q2 (.inr x))) : PP bb w D pm_295 (122, [(0, .ref 189), (1, .int (i32 v1)), (2, .int (i32 v2)), (3, .long (i64 v3)), (5, .long (i64 v5)), (7, .int (i32 v7)), (8, .int (i32 (j 8))), (9, .int (i32 (j 9))), (10, .int (i32 v10)), (11, .int (i32 v11)), (12, .int (i32 (j 12)))], [], (mhp m c, N), 0, 0) (QS Q2 (rfl_stageFor_122 v1 v2 v3 v5 v7 v10 v11 m)) := by
  unfold rfl_stageFor_122
  show PP bb w D pm_295 (122, [(0, .ref 189), (1, .int (i32 v1)), (2, .int (i32 v2)), (3, .long (i64 v3)), (5, .long (i64 v5)), (7, .int (i32 v7)), (8, .int (i32 (j 8))), (9, .int (i32 (j 9))), (10, .int (i32 v10)), (11, .int (i32 v11)), (12, .int (i32 (j 12)))], [], (mhp (mO m [] []) c, N), 0, 0) _
  refine P_ld 123 (.int (i32 0)) rfl (fun _ => rfl) ?_
  exact dg_stageFor_123 w c N D bb v1 v2 v3 v5 v7 v10 v11 0 q1 q2 q3 q5 q7 q10 q11 (l32 0 rfl) m hm (jk [(8, j 8), (9, j 9), (12, j 12)]) Q2 H1 H2
def rfl_stageFor_118 (v1 : Int) (v2 : Int) (v3 : Int) (v5 : Int) (v7 : Int) (v10 : Int) (v11 : Int) (m : mR) : Option (Sum (Int × Int × Int × Int) (Int × Int × Int)) :=
  rfl_stageFor_123 v1 v2 v3 v5 v7 v10 v11 1 m
theorem dg_stageFor_118 (w : wX) (c : Nat → Option am_C) (N D : Nat) (bb : Nat) (v1 : Int) (v2 : Int) (v3 : Int) (v5 : Int) (v7 : Int) (v10 : Int) (v11 : Int) (q1 : R32 v1) (q2 : R32 v2) (q3 : R64 v3) (q5 : R64 v5) (q7 : R32 v7) (q10 : R32 v10) (q11 : R32 v11) (m : mR) (hm : Cn m) (j : Nat → Int) (Q2 : Sum (Int × Int × Int × Int) (Int × Int × Int) → ag_Re af_T → Prop) (H1 : ∀ s j, cs_stageFor_12 s → PP bb w D pm_295 (hd_stageFor_12 c N v1 v2 v3 v5 m s j) (Q2 (.inl s))) (H2 : ∀ x j, cx_stageFor_12 x → PP bb w D pm_295 (ex_stageFor_12 c N v1 v2 v3 v5 m x j) (Q2 (.inr x))) : PP bb w D pm_295 (118, [(0, .ref 189), (1, .int (i32 v1)), (2, .int (i32 v2)), (3, .long (i64 v3)), (5, .long (i64 v5)), (7, .int (i32 v7)), (8, .int (i32 (j 8))), (9, .int (i32 (j 9))), (10, .int (i32 v10)), (11, .int (i32 v11)), (12, .int (i32 (j 12)))], [], (mhp m c, N), 0, 0) (QS Q2 (rfl_stageFor_118 v1 v2 v3 v5 v7 v10 v11 m)) := by
  unfold rfl_stageFor_118
  show PP bb w D pm_295 (118, [(0, .ref 189), (1, .int (i32 v1)), (2, .int (i32 v2)), (3, .long (i64 v3)), (5, .long (i64 v5)), (7, .int (i32 v7)), (8, .int (i32 (j 8))), (9, .int (i32 (j 9))), (10, .int (i32 v10)), (11, .int (i32 v11)), (12, .int (i32 (j 12)))], [], (mhp (mO m [] []) c, N), 0, 0) _
  refine P_ld 119 (.int (i32 1)) rfl (fun _ => rfl) ?_
  refine P_goto 123 rfl (fun _ => rfl) ?_
  exact dg_stageFor_123 w c N D bb v1 v2 v3 v5 v7 v10 v11 1 q1 q2 q3 q5 q7 q10 q11 (l32 1 rfl) m hm (jk [(8, j 8), (9, j 9), (12, j 12)]) Q2 H1 H2
def rfl_stageFor_86 (v1 : Int) (v2 : Int) (v3 : Int) (v5 : Int) (v8 : Int) (v9 : Int) (v10 : Int) (v11 : Int) (u0 : Int) (m : mR) : Option (Sum (Int × Int × Int × Int) (Int × Int × Int)) :=
  bnd (rf_sharesArray v10 v1 m) fun y22 =>
  if y22 = 0 then
    rfl_stageFor_129 v1 v2 v3 v5 u0 v8 v9 v10 m
  else
    if v9 = 0 then
      rfl_stageFor_122 v1 v2 v3 v5 u0 v10 v11 m
    else
      if v8 < 0 then
        rfl_stageFor_118 v1 v2 v3 v5 u0 v10 v11 m
      else
        if v8 = v11 then
          rfl_stageFor_118 v1 v2 v3 v5 u0 v10 v11 m
        else
          rfl_stageFor_122 v1 v2 v3 v5 u0 v10 v11 m
theorem dg_stageFor_86 (w : wX) (c : Nat → Option am_C) (N D : Nat) (bb : Nat) (v1 : Int) (v2 : Int) (v3 : Int) (v5 : Int) (v8 : Int) (v9 : Int) (v10 : Int) (v11 : Int) (u0 : Int) (q1 : R32 v1) (q2 : R32 v2) (q3 : R64 v3) (q5 : R64 v5) (q8 : R32 v8) (q9 : R32 v9) (q10 : R32 v10) (q11 : R32 v11) (r0 : R32 u0) (m : mR) (hm : Cn m) (j : Nat → Int) (Q2 : Sum (Int × Int × Int × Int) (Int × Int × Int) → ag_Re af_T → Prop) (H1 : ∀ s j, cs_stageFor_12 s → PP bb w D pm_295 (hd_stageFor_12 c N v1 v2 v3 v5 m s j) (Q2 (.inl s))) (H2 : ∀ x j, cx_stageFor_12 x → PP bb w D pm_295 (ex_stageFor_12 c N v1 v2 v3 v5 m x j) (Q2 (.inr x))) : PP bb w D pm_295 (86, [(0, .ref 189), (1, .int (i32 v1)), (2, .int (i32 v2)), (3, .long (i64 v3)), (5, .long (i64 v5)), (7, .int (i32 (j 7))), (8, .int (i32 v8)), (9, .int (i32 v9)), (10, .int (i32 v10)), (11, .int (i32 v11)), (12, .int (i32 (j 12)))], [.int (i32 u0)], (mhp m c, N), 0, 0) (QS Q2 (rfl_stageFor_86 v1 v2 v3 v5 v8 v9 v10 v11 u0 m)) := by
  unfold rfl_stageFor_86
  show PP bb w D pm_295 (86, [(0, .ref 189), (1, .int (i32 v1)), (2, .int (i32 v2)), (3, .long (i64 v3)), (5, .long (i64 v5)), (7, .int (i32 (j 7))), (8, .int (i32 v8)), (9, .int (i32 v9)), (10, .int (i32 v10)), (11, .int (i32 v11)), (12, .int (i32 (j 12)))], [.int (i32 u0)], (mhp (mO m [] []) c, N), 0, 0) _
  refine P_sto 88 [(7, .int (i32 u0)), (0, .ref 189), (1, .int (i32 v1)), (2, .int (i32 v2)), (3, .long (i64 v3)), (5, .long (i64 v5)), (8, .int (i32 v8)), (9, .int (i32 v9)), (10, .int (i32 v10)), (11, .int (i32 v11)), (12, .int (i32 (j 12)))] rfl (fun _ => rfl) ?_
  refine P_ld 89 (.ref 189) rfl (fun _ => rfl) ?_
  refine P_ld 91 (.int (i32 v10)) rfl (fun _ => rfl) ?_
  refine P_ld 92 (.int (i32 v1)) rfl (fun _ => rfl) ?_
  refine P_cp1 95 299 [.ref 189, .int (i32 v10), .int (i32 v1)] [] rfl (fun _ => rfl) rfl (D_sharesArray w m c N D hm v10 v1 q10 q1) (fun y22 h23 => ?_)
  refine P_ifE 101 98 rfl rfl rfl h23 rfl (fun h24 => ?_) (fun h24 => ?_)
  · skip
    refine P_goto 129 rfl (fun _ => rfl) ?_
    refine P_lv (b := [(0, .ref 189), (1, .int (i32 v1)), (2, .int (i32 v2)), (3, .long (i64 v3)), (5, .long (i64 v5)), (7, .int (i32 u0)), (8, .int (i32 v8)), (9, .int (i32 v9)), (10, .int (i32 v10)), (11, .int (i32 v11)), (12, .int (i32 (j 12)))]) rfl rfl ⟨rfl, rfl, rfl, rfl, rfl, rfl, rfl, rfl, rfl, rfl, rfl, trivial⟩ ?_
    exact dg_stageFor_129 w c N D bb v1 v2 v3 v5 u0 v8 v9 v10 q1 q2 q3 q5 r0 q8 q9 q10 m hm (jk [(11, v11), (12, j 12)]) Q2 H1 H2
  · skip
    refine P_ld 103 (.int (i32 v9)) rfl (fun _ => rfl) ?_
    refine P_ifF 122 106 rfl rfl rfl q9 rfl (fun h25 => ?_) (fun h25 => ?_)
    · skip
      refine P_lv (b := [(0, .ref 189), (1, .int (i32 v1)), (2, .int (i32 v2)), (3, .long (i64 v3)), (5, .long (i64 v5)), (7, .int (i32 u0)), (8, .int (i32 v8)), (9, .int (i32 v9)), (10, .int (i32 v10)), (11, .int (i32 v11)), (12, .int (i32 (j 12)))]) rfl rfl ⟨rfl, rfl, rfl, rfl, rfl, rfl, rfl, rfl, rfl, rfl, rfl, trivial⟩ ?_
      exact dg_stageFor_122 w c N D bb v1 v2 v3 v5 u0 v10 v11 q1 q2 q3 q5 r0 q10 q11 m hm (jk [(8, v8), (9, v9), (12, j 12)]) Q2 H1 H2
    · skip
      refine P_ld 108 (.int (i32 v8)) rfl (fun _ => rfl) ?_
      refine P_ifF 118 111 rfl rfl rfl q8 rfl (fun h26 => ?_) (fun h26 => ?_)
      · skip
        refine P_lv (b := [(0, .ref 189), (1, .int (i32 v1)), (2, .int (i32 v2)), (3, .long (i64 v3)), (5, .long (i64 v5)), (7, .int (i32 u0)), (8, .int (i32 v8)), (9, .int (i32 v9)), (10, .int (i32 v10)), (11, .int (i32 v11)), (12, .int (i32 (j 12)))]) rfl rfl ⟨rfl, rfl, rfl, rfl, rfl, rfl, rfl, rfl, rfl, rfl, rfl, trivial⟩ ?_
        exact dg_stageFor_118 w c N D bb v1 v2 v3 v5 u0 v10 v11 q1 q2 q3 q5 r0 q10 q11 m hm (jk [(8, v8), (9, v9), (12, j 12)]) Q2 H1 H2
      · skip
        refine P_ld 113 (.int (i32 v8)) rfl (fun _ => rfl) ?_
        refine P_ld 115 (.int (i32 v11)) rfl (fun _ => rfl) ?_
        refine P_icE 122 118 rfl rfl rfl q8 q11 rfl (fun h27 => ?_) (fun h27 => ?_)
        · skip
          refine P_lv (b := [(0, .ref 189), (1, .int (i32 v1)), (2, .int (i32 v2)), (3, .long (i64 v3)), (5, .long (i64 v5)), (7, .int (i32 u0)), (8, .int (i32 v8)), (9, .int (i32 v9)), (10, .int (i32 v10)), (11, .int (i32 v11)), (12, .int (i32 (j 12)))]) rfl rfl ⟨rfl, rfl, rfl, rfl, rfl, rfl, rfl, rfl, rfl, rfl, rfl, trivial⟩ ?_
          exact dg_stageFor_118 w c N D bb v1 v2 v3 v5 u0 v10 v11 q1 q2 q3 q5 r0 q10 q11 m hm (jk [(8, v8), (9, v9), (12, j 12)]) Q2 H1 H2
        · skip
          refine P_lv (b := [(0, .ref 189), (1, .int (i32 v1)), (2, .int (i32 v2)), (3, .long (i64 v3)), (5, .long (i64 v5)), (7, .int (i32 u0)), (8, .int (i32 v8)), (9, .int (i32 v9)), (10, .int (i32 v10)), (11, .int (i32 v11)), (12, .int (i32 (j 12)))]) rfl rfl ⟨rfl, rfl, rfl, rfl, rfl, rfl, rfl, rfl, rfl, rfl, rfl, trivial⟩ ?_
          exact dg_stageFor_122 w c N D bb v1 v2 v3 v5 u0 v10 v11 q1 q2 q3 q5 r0 q10 q11 m hm (jk [(8, v8), (9, v9), (12, j 12)]) Q2 H1 H2
def rfl_stageFor_70 (v1 : Int) (v2 : Int) (v3 : Int) (v5 : Int) (v7 : Int) (v8 : Int) (v9 : Int) (v10 : Int) (v11 : Int) (u0 : Int) (m : mR) : Option (Sum (Int × Int × Int × Int) (Int × Int × Int)) :=
  if u0 ≤ v7 then
    rfl_stageFor_86 v1 v2 v3 v5 v8 v9 v10 v11 v7 m
  else
    rfl_stageFor_86 v1 v2 v3 v5 v8 v9 v10 v11 u0 m
theorem dg_stageFor_70 (w : wX) (c : Nat → Option am_C) (N D : Nat) (bb : Nat) (v1 : Int) (v2 : Int) (v3 : Int) (v5 : Int) (v7 : Int) (v8 : Int) (v9 : Int) (v10 : Int) (v11 : Int) (u0 : Int) (q1 : R32 v1) (q2 : R32 v2) (q3 : R64 v3) (q5 : R64 v5) (q7 : R32 v7) (q8 : R32 v8) (q9 : R32 v9) (q10 : R32 v10) (q11 : R32 v11) (r0 : R32 u0) (m : mR) (hm : Cn m) (j : Nat → Int) (Q2 : Sum (Int × Int × Int × Int) (Int × Int × Int) → ag_Re af_T → Prop) (H1 : ∀ s j, cs_stageFor_12 s → PP bb w D pm_295 (hd_stageFor_12 c N v1 v2 v3 v5 m s j) (Q2 (.inl s))) (H2 : ∀ x j, cx_stageFor_12 x → PP bb w D pm_295 (ex_stageFor_12 c N v1 v2 v3 v5 m x j) (Q2 (.inr x))) : PP bb w D pm_295 (70, [(0, .ref 189), (1, .int (i32 v1)), (2, .int (i32 v2)), (3, .long (i64 v3)), (5, .long (i64 v5)), (7, .int (i32 v7)), (8, .int (i32 v8)), (9, .int (i32 v9)), (10, .int (i32 v10)), (11, .int (i32 v11)), (12, .int (i32 (j 12)))], [.int (i32 u0)], (mhp m c, N), 0, 0) (QS Q2 (rfl_stageFor_70 v1 v2 v3 v5 v7 v8 v9 v10 v11 u0 m)) := by
  unfold rfl_stageFor_70
  show PP bb w D pm_295 (70, [(0, .ref 189), (1, .int (i32 v1)), (2, .int (i32 v2)), (3, .long (i64 v3)), (5, .long (i64 v5)), (7, .int (i32 v7)), (8, .int (i32 v8)), (9, .int (i32 v9)), (10, .int (i32 v10)), (11, .int (i32 v11)), (12, .int (i32 (j 12)))], [.int (i32 u0)], (mhp (mO m [] []) c, N), 0, 0) _
  refine P_sto 72 [(12, .int (i32 u0)), (0, .ref 189), (1, .int (i32 v1)), (2, .int (i32 v2)), (3, .long (i64 v3)), (5, .long (i64 v5)), (7, .int (i32 v7)), (8, .int (i32 v8)), (9, .int (i32 v9)), (10, .int (i32 v10)), (11, .int (i32 v11))] rfl (fun _ => rfl) ?_
  refine P_ld 74 (.int (i32 u0)) rfl (fun _ => rfl) ?_
  refine P_ld 76 (.int (i32 v7)) rfl (fun _ => rfl) ?_
  refine P_icF 84 79 rfl rfl rfl r0 q7 rfl (fun h28 => ?_) (fun h28 => ?_)
  · skip
    refine P_ld 86 (.int (i32 v7)) rfl (fun _ => rfl) ?_
    refine P_lv (b := [(0, .ref 189), (1, .int (i32 v1)), (2, .int (i32 v2)), (3, .long (i64 v3)), (5, .long (i64 v5)), (7, .int (i32 v7)), (8, .int (i32 v8)), (9, .int (i32 v9)), (10, .int (i32 v10)), (11, .int (i32 v11)), (12, .int (i32 u0))]) rfl rfl ⟨rfl, rfl, rfl, rfl, rfl, rfl, rfl, rfl, rfl, rfl, rfl, trivial⟩ ?_
    exact dg_stageFor_86 w c N D bb v1 v2 v3 v5 v8 v9 v10 v11 v7 q1 q2 q3 q5 q8 q9 q10 q11 q7 m hm (jk [(7, v7), (12, u0)]) Q2 H1 H2
  · skip
    refine P_ld 81 (.int (i32 u0)) rfl (fun _ => rfl) ?_
    refine P_goto 86 rfl (fun _ => rfl) ?_
    refine P_lv (b := [(0, .ref 189), (1, .int (i32 v1)), (2, .int (i32 v2)), (3, .long (i64 v3)), (5, .long (i64 v5)), (7, .int (i32 v7)), (8, .int (i32 v8)), (9, .int (i32 v9)), (10, .int (i32 v10)), (11, .int (i32 v11)), (12, .int (i32 u0))]) rfl rfl ⟨rfl, rfl, rfl, rfl, rfl, rfl, rfl, rfl, rfl, rfl, rfl, trivial⟩ ?_
    exact dg_stageFor_86 w c N D bb v1 v2 v3 v5 v8 v9 v10 v11 u0 q1 q2 q3 q5 q8 q9 q10 q11 r0 m hm (jk [(7, v7), (12, u0)]) Q2 H1 H2
def rfl_stageFor_47 (v1 : Int) (v2 : Int) (v3 : Int) (v5 : Int) (v7 : Int) (v8 : Int) (v9 : Int) (v10 : Int) (v11 : Int) (m : mR) : Option (Sum (Int × Int × Int × Int) (Int × Int × Int)) :=
  rfl_stageFor_70 v1 v2 v3 v5 v7 v8 v9 v10 v11 (cut (v11 + 1)) m
theorem dg_stageFor_47 (w : wX) (c : Nat → Option am_C) (N D : Nat) (bb : Nat) (v1 : Int) (v2 : Int) (v3 : Int) (v5 : Int) (v7 : Int) (v8 : Int) (v9 : Int) (v10 : Int) (v11 : Int) (q1 : R32 v1) (q2 : R32 v2) (q3 : R64 v3) (q5 : R64 v5) (q7 : R32 v7) (q8 : R32 v8) (q9 : R32 v9) (q10 : R32 v10) (q11 : R32 v11) (m : mR) (hm : Cn m) (j : Nat → Int) (Q2 : Sum (Int × Int × Int × Int) (Int × Int × Int) → ag_Re af_T → Prop) (H1 : ∀ s j, cs_stageFor_12 s → PP bb w D pm_295 (hd_stageFor_12 c N v1 v2 v3 v5 m s j) (Q2 (.inl s))) (H2 : ∀ x j, cx_stageFor_12 x → PP bb w D pm_295 (ex_stageFor_12 c N v1 v2 v3 v5 m x j) (Q2 (.inr x))) : PP bb w D pm_295 (47, [(0, .ref 189), (1, .int (i32 v1)), (2, .int (i32 v2)), (3, .long (i64 v3)), (5, .long (i64 v5)), (7, .int (i32 v7)), (8, .int (i32 v8)), (9, .int (i32 v9)), (10, .int (i32 v10)), (11, .int (i32 v11)), (12, .int (i32 (j 12)))], [], (mhp m c, N), 0, 0) (QS Q2 (rfl_stageFor_47 v1 v2 v3 v5 v7 v8 v9 v10 v11 m)) := by
  unfold rfl_stageFor_47
  show PP bb w D pm_295 (47, [(0, .ref 189), (1, .int (i32 v1)), (2, .int (i32 v2)), (3, .long (i64 v3)), (5, .long (i64 v5)), (7, .int (i32 v7)), (8, .int (i32 v8)), (9, .int (i32 v9)), (10, .int (i32 v10)), (11, .int (i32 v11)), (12, .int (i32 (j 12)))], [], (mhp (mO m [] []) c, N), 0, 0) _
  refine P_ld 49 (.int (i32 v11)) rfl (fun _ => rfl) ?_
  refine P_ld 50 (.int (i32 1)) rfl (fun _ => rfl) ?_
  refine P_op 51 (cut (v11 + 1)) _ rfl (fun _ => rfl) o_add ?_
  refine P_goto 70 rfl (fun _ => rfl) ?_
  exact dg_stageFor_70 w c N D bb v1 v2 v3 v5 v7 v8 v9 v10 v11 (cut (v11 + 1)) q1 q2 q3 q5 q7 q8 q9 q10 q11 cut_r m hm (jk [(12, j 12)]) Q2 H1 H2
def rfb_stageFor_12 (v1 : Int) (v2 : Int) (v3 : Int) (v5 : Int) (m : mR) (s : Int × Int × Int × Int) : Option (Sum (Int × Int × Int × Int) (Int × Int × Int)) :=
  if v1 ≤ s.2.2.2 then
    some (.inr (s.1, s.2.1, s.2.2.1))
  else
    bnd (rf_givesTo s.2.2.2 v1 m) fun y33 =>
    if y33 = 0 then
      bnd (rf_isWithin v1 s.2.2.2 m) fun y36 =>
      if y36 = 0 then
        bnd (rf_readsAhead s.2.2.2 v1 m) fun y39 =>
        if y39 = 0 then
          rfl_stageFor_70 v1 v2 v3 v5 s.1 s.2.1 s.2.2.1 s.2.2.2 ((m.2 131) s.2.2.2) 0 m
        else
          rfl_stageFor_70 v1 v2 v3 v5 s.1 s.2.1 s.2.2.1 s.2.2.2 ((m.2 131) s.2.2.2) ((m.2 131) s.2.2.2) m
      else
        rfl_stageFor_47 v1 v2 v3 v5 s.1 s.2.1 s.2.2.1 s.2.2.2 ((m.2 131) s.2.2.2) m
    else
      rfl_stageFor_47 v1 v2 v3 v5 s.1 s.2.1 s.2.2.1 s.2.2.2 ((m.2 131) s.2.2.2) m
theorem dh_stageFor_12 (w : wX) (c : Nat → Option am_C) (N D : Nat) (v1 : Int) (v2 : Int) (v3 : Int) (v5 : Int) (q1 : R32 v1) (q2 : R32 v2) (q3 : R64 v3) (q5 : R64 v5) (m : mR) (hm : Cn m) (bb : Nat) (Q2 : Sum (Int × Int × Int × Int) (Int × Int × Int) → ag_Re af_T → Prop) (H1 : ∀ s j, cs_stageFor_12 s → PP bb w D pm_295 (hd_stageFor_12 c N v1 v2 v3 v5 m s j) (Q2 (.inl s))) (H2 : ∀ x j, cx_stageFor_12 x → PP bb w D pm_295 (ex_stageFor_12 c N v1 v2 v3 v5 m x j) (Q2 (.inr x))) (s : Int × Int × Int × Int) (j : Nat → Int) (hs : cs_stageFor_12 s) : PP (bb + 1) w D pm_295 (hd_stageFor_12 c N v1 v2 v3 v5 m s j) (QS Q2 (rfb_stageFor_12 v1 v2 v3 v5 m s)) := by
  obtain ⟨g7, g8, g9, g10⟩ := hs
  unfold rfb_stageFor_12
  show PP (bb + 1) w D pm_295 (12, [(0, .ref 189), (1, .int (i32 v1)), (2, .int (i32 v2)), (3, .long (i64 v3)), (5, .long (i64 v5)), (7, .int (i32 s.1)), (8, .int (i32 s.2.1)), (9, .int (i32 s.2.2.1)), (10, .int (i32 s.2.2.2)), (11, .int (i32 (j 11))), (12, .int (i32 (j 12)))], [], (mhp (mO m [] []) c, N), 0, 0) _
  refine P1_ld 14 (.int (i32 s.2.2.2)) rfl (fun _ => rfl) ?_
  refine P_ld 15 (.int (i32 v1)) rfl (fun _ => rfl) ?_
  refine P_icF 135 18 rfl rfl rfl g10 q1 rfl (fun h32 => ?_) (fun h32 => ?_)
  · skip
    refine P_some ?_
    exact H2 (s.1, s.2.1, s.2.2.1) (jk [(10, s.2.2.2), (11, j 11), (12, j 12)]) ⟨g7, g8, g9⟩
  · skip
    refine P_gf 22 (.ref 285) rfl rfl rfl rfl rfl rfl ?_
    refine P_ld 24 (.int (i32 s.2.2.2)) rfl (fun _ => rfl) ?_
    refine P_iald2 25 131 (m.2 131) rfl rfl rfl g10 rfl ?_
    refine P_sto 27 [(11, .int (i32 ((m.2 131) s.2.2.2))), (0, .ref 189), (1, .int (i32 v1)), (2, .int (i32 v2)), (3, .long (i64 v3)), (5, .long (i64 v5)), (7, .int (i32 s.1)), (8, .int (i32 s.2.1)), (9, .int (i32 s.2.2.1)), (10, .int (i32 s.2.2.2)), (12, .int (i32 (j 12)))] rfl (fun _ => rfl) ?_
    refine P_ld 28 (.ref 189) rfl (fun _ => rfl) ?_
    refine P_ld 30 (.int (i32 s.2.2.2)) rfl (fun _ => rfl) ?_
    refine P_ld 31 (.int (i32 v1)) rfl (fun _ => rfl) ?_
    refine P_cp1 34 296 [.ref 189, .int (i32 s.2.2.2), .int (i32 v1)] [] rfl (fun _ => rfl) rfl (D_givesTo w m c N D hm s.2.2.2 v1 g10 q1) (fun y33 h34 => ?_)
    refine P_ifE 47 37 rfl rfl rfl h34 rfl (fun h35 => ?_) (fun h35 => ?_)
    · skip
      refine P_ld 38 (.ref 189) rfl (fun _ => rfl) ?_
      refine P_ld 39 (.int (i32 v1)) rfl (fun _ => rfl) ?_
      refine P_ld 41 (.int (i32 s.2.2.2)) rfl (fun _ => rfl) ?_
      refine P_cp1 44 297 [.ref 189, .int (i32 v1), .int (i32 s.2.2.2)] [] rfl (fun _ => rfl) rfl (D_isWithin w m c N D hm v1 s.2.2.2 q1 g10) (fun y36 h37 => ?_)
      refine P_ifF 54 47 rfl rfl rfl h37 rfl (fun h38 => ?_) (fun h38 => ?_)
      · skip
        refine P_ld 55 (.ref 189) rfl (fun _ => rfl) ?_
        refine P_ld 57 (.int (i32 s.2.2.2)) rfl (fun _ => rfl) ?_
        refine P_ld 58 (.int (i32 v1)) rfl (fun _ => rfl) ?_
        refine P_cp1 61 298 [.ref 189, .int (i32 s.2.2.2), .int (i32 v1)] [] rfl (fun _ => rfl) rfl (D_readsAhead w m c N D hm s.2.2.2 v1 g10 q1) (fun y39 h40 => ?_)
        refine P_ifF 69 64 rfl rfl rfl h40 rfl (fun h41 => ?_) (fun h41 => ?_)
        · skip
          refine P_ld 70 (.int (i32 0)) rfl (fun _ => rfl) ?_
          refine P_lv (b := [(0, .ref 189), (1, .int (i32 v1)), (2, .int (i32 v2)), (3, .long (i64 v3)), (5, .long (i64 v5)), (7, .int (i32 s.1)), (8, .int (i32 s.2.1)), (9, .int (i32 s.2.2.1)), (10, .int (i32 s.2.2.2)), (11, .int (i32 ((m.2 131) s.2.2.2))), (12, .int (i32 (j 12)))]) rfl rfl ⟨rfl, rfl, rfl, rfl, rfl, rfl, rfl, rfl, rfl, rfl, rfl, trivial⟩ ?_
          exact dg_stageFor_70 w c N D bb v1 v2 v3 v5 s.1 s.2.1 s.2.2.1 s.2.2.2 ((m.2 131) s.2.2.2) 0 q1 q2 q3 q5 g7 g8 g9 g10 (rE_i (Cn_a hm 131) rfl _) (l32 0 rfl) m hm (jk [(12, j 12)]) Q2 H1 H2
        · skip
          refine P_ld 66 (.int (i32 ((m.2 131) s.2.2.2))) rfl (fun _ => rfl) ?_
          refine P_goto 70 rfl (fun _ => rfl) ?_
          refine P_lv (b := [(0, .ref 189), (1, .int (i32 v1)), (2, .int (i32 v2)), (3, .long (i64 v3)), (5, .long (i64 v5)), (7, .int (i32 s.1)), (8, .int (i32 s.2.1)), (9, .int (i32 s.2.2.1)), (10, .int (i32 s.2.2.2)), (11, .int (i32 ((m.2 131) s.2.2.2))), (12, .int (i32 (j 12)))]) rfl rfl ⟨rfl, rfl, rfl, rfl, rfl, rfl, rfl, rfl, rfl, rfl, rfl, trivial⟩ ?_
          exact dg_stageFor_70 w c N D bb v1 v2 v3 v5 s.1 s.2.1 s.2.2.1 s.2.2.2 ((m.2 131) s.2.2.2) ((m.2 131) s.2.2.2) q1 q2 q3 q5 g7 g8 g9 g10 (rE_i (Cn_a hm 131) rfl _) (rE_i (Cn_a hm 131) rfl _) m hm (jk [(12, j 12)]) Q2 H1 H2
      · skip
        refine P_lv (b := [(0, .ref 189), (1, .int (i32 v1)), (2, .int (i32 v2)), (3, .long (i64 v3)), (5, .long (i64 v5)), (7, .int (i32 s.1)), (8, .int (i32 s.2.1)), (9, .int (i32 s.2.2.1)), (10, .int (i32 s.2.2.2)), (11, .int (i32 ((m.2 131) s.2.2.2))), (12, .int (i32 (j 12)))]) rfl rfl ⟨rfl, rfl, rfl, rfl, rfl, rfl, rfl, rfl, rfl, rfl, rfl, trivial⟩ ?_
        exact dg_stageFor_47 w c N D bb v1 v2 v3 v5 s.1 s.2.1 s.2.2.1 s.2.2.2 ((m.2 131) s.2.2.2) q1 q2 q3 q5 g7 g8 g9 g10 (rE_i (Cn_a hm 131) rfl _) m hm (jk [(12, j 12)]) Q2 H1 H2
    · skip
      refine P_lv (b := [(0, .ref 189), (1, .int (i32 v1)), (2, .int (i32 v2)), (3, .long (i64 v3)), (5, .long (i64 v5)), (7, .int (i32 s.1)), (8, .int (i32 s.2.1)), (9, .int (i32 s.2.2.1)), (10, .int (i32 s.2.2.2)), (11, .int (i32 ((m.2 131) s.2.2.2))), (12, .int (i32 (j 12)))]) rfl rfl ⟨rfl, rfl, rfl, rfl, rfl, rfl, rfl, rfl, rfl, rfl, rfl, trivial⟩ ?_
      exact dg_stageFor_47 w c N D bb v1 v2 v3 v5 s.1 s.2.1 s.2.2.1 s.2.2.2 ((m.2 131) s.2.2.2) q1 q2 q3 q5 g7 g8 g9 g10 (rE_i (Cn_a hm 131) rfl _) m hm (jk [(12, j 12)]) Q2 H1 H2
def rf_stageFor (v1 : Int) (v2 : Int) (v3 : Int) (v5 : Int) (m : mR) : Option Int :=
  bnd (whl (rfb_stageFor_12 v1 v2 v3 v5 m) (0, (-1), 1, 0)) (fun e42 : Int × Int × Int =>
    rfl_stageFor_135 v1 v2 v3 v5 e42.1 e42.2.1 e42.2.2 m)
theorem D_stageFor (w : wX) (m : mR) (c : Nat → Option am_C) (N D : Nat) (hm : Cn m) (v1 : Int) (v2 : Int) (v3 : Int) (v5 : Int) (q1 : R32 v1) (q2 : R32 v2) (q3 : R64 v3) (q5 : R64 v5) : PC w D 295 [.ref 189, .int (i32 v1), .int (i32 v2), .long (i64 v3), .long (i64 v5)] (mhp m c, N) (QS (FP1 (mhp m c, N)) (rf_stageFor v1 v2 v3 v5 m)) := by
  refine Pc_of (fun D bb => ?_) D
  unfold rf_stageFor
  show PP bb w D pm_295 (0, [(0, .ref 189), (1, .int (i32 v1)), (2, .int (i32 v2)), (3, .long (i64 v3)), (5, .long (i64 v5))], [], (mhp (mO m [] []) c, N), 0, 0) _
  refine P_ld 1 (.int (i32 0)) rfl (fun _ => rfl) ?_
  refine P_sto 3 [(7, .int (i32 0)), (0, .ref 189), (1, .int (i32 v1)), (2, .int (i32 v2)), (3, .long (i64 v3)), (5, .long (i64 v5))] rfl (fun _ => rfl) ?_
  refine P_ld 4 (.int (i32 (-1))) rfl (fun _ => rfl) ?_
  refine P_sto 6 [(8, .int (i32 (-1))), (7, .int (i32 0)), (0, .ref 189), (1, .int (i32 v1)), (2, .int (i32 v2)), (3, .long (i64 v3)), (5, .long (i64 v5))] rfl (fun _ => rfl) ?_
  refine P_ld 7 (.int (i32 1)) rfl (fun _ => rfl) ?_
  refine P_sto 9 [(9, .int (i32 1)), (8, .int (i32 (-1))), (7, .int (i32 0)), (0, .ref 189), (1, .int (i32 v1)), (2, .int (i32 v2)), (3, .long (i64 v3)), (5, .long (i64 v5))] rfl (fun _ => rfl) ?_
  refine P_ld 10 (.int (i32 0)) rfl (fun _ => rfl) ?_
  refine P_sto 12 [(10, .int (i32 0)), (9, .int (i32 1)), (8, .int (i32 (-1))), (7, .int (i32 0)), (0, .ref 189), (1, .int (i32 v1)), (2, .int (i32 v2)), (3, .long (i64 v3)), (5, .long (i64 v5))] rfl (fun _ => rfl) ?_
  refine P_lv (b := [(0, .ref 189), (1, .int (i32 v1)), (2, .int (i32 v2)), (3, .long (i64 v3)), (5, .long (i64 v5)), (7, .int (i32 0)), (8, .int (i32 (-1))), (9, .int (i32 1)), (10, .int (i32 0)), (11, .int (i32 0)), (12, .int (i32 0))]) rfl rfl ⟨rfl, rfl, rfl, rfl, rfl, rfl, rfl, rfl, rfl, trivial⟩ ?_
  refine P_bnd ?_
  refine P_whl (fun bb Q2 H1 H2 s9 j9 hs9 => dh_stageFor_12 w c N D v1 v2 v3 v5 q1 q2 q3 q5 m hm bb Q2 H1 H2 s9 j9 hs9) bb (fun e42 j q43 => ?_) (0, (-1), 1, 0) (jk []) ⟨(l32 0 rfl), (l32 (-1) rfl), (l32 1 rfl), (l32 0 rfl)⟩
  obtain ⟨q44, q45, q46⟩ := q43
  show PP bb w D pm_295 (135, [(0, .ref 189), (1, .int (i32 v1)), (2, .int (i32 v2)), (3, .long (i64 v3)), (5, .long (i64 v5)), (7, .int (i32 e42.1)), (8, .int (i32 e42.2.1)), (9, .int (i32 e42.2.2)), (10, .int (i32 (j 10))), (11, .int (i32 (j 11))), (12, .int (i32 (j 12)))], [], (mhp (mO m [] []) c, N), 0, 0) (QS _ (rfl_stageFor_135 v1 v2 v3 v5 e42.1 e42.2.1 e42.2.2 m))
  exact dg_stageFor_135 w c N D bb v1 v2 v3 v5 e42.1 e42.2.1 e42.2.2 q1 q2 q3 q5 q44 q45 q46 m hm (jk [(10, j 10), (11, j 11), (12, j 12)])
end X26P
