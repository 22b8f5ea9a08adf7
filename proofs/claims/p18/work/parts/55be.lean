noncomputable section X55BE
def cs_readPacket_2 (s : Int × mR) : Prop := R32 s.1 ∧ Cn s.2
def cx_readPacket_2 : (mR) → Prop := (fun (e : mR) => Cn e)
def hd_readPacket_2 (c : Nat → Option am_C) (N : Nat) (s : Int × mR) (j : Nat → Int) : ag_St af_T := (2, [(0, .ref 189), (1, .int (i32 s.1))], [], (mhp s.2 c, N), 0, 0)
def ex_readPacket_2 (c : Nat → Option am_C) (N : Nat) : (mR) → (Nat → Int) → ag_St af_T := (fun (e : mR) (j : Nat → Int) => ((22, [(0, .ref 189), (1, .int (i32 (j 1)))], [], (mhp e c, N), 0, 0) : ag_St af_T))
def cs_readPacket_24 (s : Int × mR) : Prop := R32 s.1 ∧ Cn s.2
def cx_readPacket_24 : (mR) → Prop := (fun (e : mR) => Cn e)
def hd_readPacket_24 (c : Nat → Option am_C) (N : Nat) (s : Int × mR) (j : Nat → Int) : ag_St af_T := (24, [(0, .ref 189), (1, .int (i32 s.1))], [], (mhp s.2 c, N), 0, 0)
def ex_readPacket_24 (c : Nat → Option am_C) (N : Nat) : (mR) → (Nat → Int) → ag_St af_T := (fun (e : mR) (j : Nat → Int) => ((43, [(0, .ref 189), (1, .int (i32 (j 1)))], [], (mhp e c, N), 0, 0) : ag_St af_T))
def cs_readPacket_45 (s : Int × mR) : Prop := R32 s.1 ∧ Cn s.2
def cx_readPacket_45 : (mR) → Prop := (fun (e : mR) => Cn e)
def hd_readPacket_45 (c : Nat → Option am_C) (N : Nat) (s : Int × mR) (j : Nat → Int) : ag_St af_T := (45, [(0, .ref 189), (1, .int (i32 s.1))], [], (mhp s.2 c, N), 0, 0)
def ex_readPacket_45 (c : Nat → Option am_C) (N : Nat) : (mR) → (Nat → Int) → ag_St af_T := (fun (e : mR) (j : Nat → Int) => ((64, [(0, .ref 189), (1, .int (i32 (j 1)))], [], (mhp e c, N), 0, 0) : ag_St af_T))
def cs_readPacket_117 (s : Int × mR) : Prop := R32 s.1 ∧ Cn s.2
def cx_readPacket_117 : (Sum (mR) (Int × mR)) → Prop := (sel (fun (e : mR) => Cn e) (fun (e : Int × mR) => R32 e.1 ∧ Cn e.2))
def hd_readPacket_117 (c : Nat → Option am_C) (N : Nat) (s : Int × mR) (j : Nat → Int) : ag_St af_T := (117, [(0, .ref 189), (1, .int (i32 s.1)), (2, .int (i32 (j 2))), (3, .int (i32 (j 3))), (4, .long (i64 (j 4))), (6, .int (i32 (j 6)))], [], (mhp s.2 c, N), 0, 0)
def ex_readPacket_117 (c : Nat → Option am_C) (N : Nat) : (Sum (mR) (Int × mR)) → (Nat → Int) → ag_St af_T := (sel (fun (e : mR) (j : Nat → Int) => ((151, [(0, .ref 189), (1, .int (i32 (j 1))), (2, .int (i32 (j 2))), (3, .int (i32 (j 3))), (4, .long (i64 (j 4))), (6, .int (i32 (j 6)))], [], (mhp e c, N), 0, 0) : ag_St af_T)) (fun (e : Int × mR) (j : Nat → Int) => ((302, [(0, .ref 189), (1, .int (i32 e.1)), (2, .int (i32 (j 2))), (3, .int (i32 (j 3))), (4, .long (i64 (j 4))), (6, .int (i32 (j 6)))], [], (mhp e.2 c, N), 0, 0) : ag_St af_T)))
def cs_readPacket_123 (s : Int × mR) : Prop := R32 s.1 ∧ Cn s.2
def cx_readPacket_123 : (Sum (mR) (mR)) → Prop := (sel (fun (e : mR) => Cn e) (fun (e : mR) => Cn e))
def hd_readPacket_123 (c : Nat → Option am_C) (N : Nat) (v1 : Int) (s : Int × mR) (j : Nat → Int) : ag_St af_T := (123, [(0, .ref 189), (1, .int (i32 v1)), (2, .int (i32 s.1)), (3, .int (i32 (j 3))), (4, .long (i64 (j 4))), (6, .int (i32 (j 6)))], [], (mhp s.2 c, N), 0, 0)
def ex_readPacket_123 (c : Nat → Option am_C) (N : Nat) (v1 : Int) : (Sum (mR) (mR)) → (Nat → Int) → ag_St af_T := (sel (fun (e : mR) (j : Nat → Int) => ((151, [(0, .ref 189), (1, .int (i32 (j 1))), (2, .int (i32 (j 2))), (3, .int (i32 (j 3))), (4, .long (i64 (j 4))), (6, .int (i32 (j 6)))], [], (mhp e c, N), 0, 0) : ag_St af_T)) (fun (e : mR) (j : Nat → Int) => ((159, [(0, .ref 189), (1, .int (i32 v1)), (2, .int (i32 (j 2))), (3, .int (i32 (j 3))), (4, .long (i64 (j 4))), (6, .int (i32 (j 6)))], [], (mhp e c, N), 0, 0) : ag_St af_T)))
def cs_readPacket_213 (s : Int × Int × Int) : Prop := R32 s.1 ∧ R32 s.2.1 ∧ R32 s.2.2
def cx_readPacket_213 : (Int) → Prop := (fun (e : Int) => R32 e)
def hd_readPacket_213 (c : Nat → Option am_C) (N : Nat) (v1 : Int) (v4 : Int) (m : mR) (s : Int × Int × Int) (j : Nat → Int) : ag_St af_T := (213, [(0, .ref 189), (1, .int (i32 v1)), (2, .int (i32 s.1)), (3, .int (i32 s.2.1)), (4, .long (i64 v4)), (6, .int (i32 s.2.2))], [], (mhp m c, N), 0, 0)
def ex_readPacket_213 (c : Nat → Option am_C) (N : Nat) (v1 : Int) (v4 : Int) (m : mR) : (Int) → (Nat → Int) → ag_St af_T := (fun (e : Int) (j : Nat → Int) => ((284, [(0, .ref 189), (1, .int (i32 (j 1))), (2, .int (i32 e)), (3, .int (i32 (j 3))), (4, .long (i64 (j 4))), (6, .int (i32 (j 6)))], [], (mhp m c, N), 0, 0) : ag_St af_T))
def rfl_readPacket_312 (u0 : Int) (m : mR) : Option (Int × mR) :=
  some (u0, m)
theorem dg_readPacket_312 (w : wX) (c : Nat → Option am_C) (N D : Nat) (bb : Nat) (u0 : Int) (r0 : R32 u0) (m : mR) (hm : Cn m) (j : Nat → Int) : PP bb w D pm_325 (312, [(0, .ref 189), (1, .int (i32 (j 1))), (2, .int (i32 (j 2))), (3, .int (i32 (j 3))), (4, .long (i64 (j 4))), (6, .int (i32 (j 6)))], [.int (i32 u0)], (mhp m c, N), 0, 0) (QS (FR1 c N) (rfl_readPacket_312 u0 m)) := by
  unfold rfl_readPacket_312
  show PP bb w D pm_325 (312, [(0, .ref 189), (1, .int (i32 (j 1))), (2, .int (i32 (j 2))), (3, .int (i32 (j 3))), (4, .long (i64 (j 4))), (6, .int (i32 (j 6)))], [.int (i32 u0)], (mhp (mO m [] []) c, N), 0, 0) _
  exact P_re1 rfl r0 hm
def rfl_readPacket_302 (v1 : Int) (m : mR) : Option (Int × mR) :=
  if v1 = (-1) then
    rfl_readPacket_312 1 m
  else
    rfl_readPacket_312 0 m
theorem dg_readPacket_302 (w : wX) (c : Nat → Option am_C) (N D : Nat) (bb : Nat) (v1 : Int) (q1 : R32 v1) (m : mR) (hm : Cn m) (j : Nat → Int) : PP bb w D pm_325 (302, [(0, .ref 189), (1, .int (i32 v1)), (2, .int (i32 (j 2))), (3, .int (i32 (j 3))), (4, .long (i64 (j 4))), (6, .int (i32 (j 6)))], [], (mhp m c, N), 0, 0) (QS (FR1 c N) (rfl_readPacket_302 v1 m)) := by
  unfold rfl_readPacket_302
  show PP bb w D pm_325 (302, [(0, .ref 189), (1, .int (i32 v1)), (2, .int (i32 (j 2))), (3, .int (i32 (j 3))), (4, .long (i64 (j 4))), (6, .int (i32 (j 6)))], [], (mhp (mO m [] []) c, N), 0, 0) _
  refine P_ld 303 (.int (i32 v1)) rfl (fun _ => rfl) ?_
  refine P_ld 304 (.int (i32 (-1))) rfl (fun _ => rfl) ?_
  refine P_icE 311 307 rfl rfl rfl q1 (l32 (-1) rfl) rfl (fun h10 => ?_) (fun h10 => ?_)
  · skip
    refine P_ld 308 (.int (i32 1)) rfl (fun _ => rfl) ?_
    refine P_goto 312 rfl (fun _ => rfl) ?_
    exact dg_readPacket_312 w c N D bb 1 (l32 1 rfl) m hm (jk [(1, v1), (2, j 2), (3, j 3), (4, j 4), (6, j 6)])
  · skip
    refine P_ld 312 (.int (i32 0)) rfl (fun _ => rfl) ?_
    exact dg_readPacket_312 w c N D bb 0 (l32 0 rfl) m hm (jk [(1, v1), (2, j 2), (3, j 3), (4, j 4), (6, j 6)])
def rfl_readPacket_298 (u0 : Int) (m : mR) : Option (Sum (Int × mR) (Sum (mR) (Int × mR))) :=
  some (.inl (u0, m))
theorem dg_readPacket_298 (w : wX) (c : Nat → Option am_C) (N D : Nat) (bb : Nat) (u0 : Int) (r0 : R32 u0) (m : mR) (hm : Cn m) (j : Nat → Int) (Q2 : Sum (Int × mR) (Sum (mR) (Int × mR)) → ag_Re af_T → Prop) (H1 : ∀ s j, cs_readPacket_117 s → PP bb w D pm_325 (hd_readPacket_117 c N s j) (Q2 (.inl s))) (H2 : ∀ x j, cx_readPacket_117 x → PP bb w D pm_325 (ex_readPacket_117 c N x j) (Q2 (.inr x))) : PP bb w D pm_325 (298, [(0, .ref 189), (1, .int (i32 (j 1))), (2, .int (i32 (j 2))), (3, .int (i32 (j 3))), (4, .long (i64 (j 4))), (6, .int (i32 (j 6)))], [.int (i32 u0)], (mhp m c, N), 0, 0) (QS Q2 (rfl_readPacket_298 u0 m)) := by
  unfold rfl_readPacket_298
  show PP bb w D pm_325 (298, [(0, .ref 189), (1, .int (i32 (j 1))), (2, .int (i32 (j 2))), (3, .int (i32 (j 3))), (4, .long (i64 (j 4))), (6, .int (i32 (j 6)))], [.int (i32 u0)], (mhp (mO m [] []) c, N), 0, 0) _
  refine P_sto 299 [(1, .int (i32 u0)), (0, .ref 189), (2, .int (i32 (j 2))), (3, .int (i32 (j 3))), (4, .long (i64 (j 4))), (6, .int (i32 (j 6)))] rfl (fun _ => rfl) ?_
  refine P_goto 117 rfl (fun _ => rfl) ?_
  refine P_some ?_
  refine P_lv (b := [(0, .ref 189), (1, .int (i32 u0)), (2, .int (i32 (j 2))), (3, .int (i32 (j 3))), (4, .long (i64 (j 4))), (6, .int (i32 (j 6)))]) rfl rfl ⟨rfl, rfl, rfl, rfl, rfl, rfl, trivial⟩ ?_
  exact H1 (u0, m) (jk [(2, j 2), (3, j 3), (4, j 4), (6, j 6)]) ⟨r0, hm⟩
def rfl_readPacket_284 (v2 : Int) (m : mR) : Option (Sum (Int × mR) (Sum (mR) (Int × mR))) :=
  if (0 : Int) ≤ v2 then
    rfl_readPacket_298 ((m.2 38) v2) m
  else
    rfl_readPacket_298 v2 m
theorem dg_readPacket_284 (w : wX) (c : Nat → Option am_C) (N D : Nat) (bb : Nat) (v2 : Int) (q2 : R32 v2) (m : mR) (hm : Cn m) (j : Nat → Int) (Q2 : Sum (Int × mR) (Sum (mR) (Int × mR)) → ag_Re af_T → Prop) (H1 : ∀ s j, cs_readPacket_117 s → PP bb w D pm_325 (hd_readPacket_117 c N s j) (Q2 (.inl s))) (H2 : ∀ x j, cx_readPacket_117 x → PP bb w D pm_325 (ex_readPacket_117 c N x j) (Q2 (.inr x))) : PP bb w D pm_325 (284, [(0, .ref 189), (1, .int (i32 (j 1))), (2, .int (i32 v2)), (3, .int (i32 (j 3))), (4, .long (i64 (j 4))), (6, .int (i32 (j 6)))], [], (mhp m c, N), 0, 0) (QS Q2 (rfl_readPacket_284 v2 m)) := by
  unfold rfl_readPacket_284
  show PP bb w D pm_325 (284, [(0, .ref 189), (1, .int (i32 (j 1))), (2, .int (i32 v2)), (3, .int (i32 (j 3))), (4, .long (i64 (j 4))), (6, .int (i32 (j 6)))], [], (mhp (mO m [] []) c, N), 0, 0) _
  refine P_ld 285 (.int (i32 v2)) rfl (fun _ => rfl) ?_
  refine P_ifF 292 288 rfl rfl rfl q2 rfl (fun h11 => ?_) (fun h11 => ?_)
  · skip
    refine P_gf 296 (.ref 208) rfl rfl rfl rfl rfl rfl ?_
    refine P_ld 297 (.int (i32 v2)) rfl (fun _ => rfl) ?_
    refine P_iald2 298 38 (m.2 38) rfl rfl rfl q2 rfl ?_
    exact dg_readPacket_298 w c N D bb ((m.2 38) v2) (rE_i (Cn_a hm 38) rfl _) m hm (jk [(1, j 1), (2, v2), (3, j 3), (4, j 4), (6, j 6)]) Q2 H1 H2
  · skip
    refine P_ld 289 (.int (i32 v2)) rfl (fun _ => rfl) ?_
    refine P_goto 298 rfl (fun _ => rfl) ?_
    exact dg_readPacket_298 w c N D bb v2 q2 m hm (jk [(1, j 1), (2, v2), (3, j 3), (4, j 4), (6, j 6)]) Q2 H1 H2
def rfl_readPacket_277 (v1 : Int) (v3 : Int) (v4 : Int) (v6 : Int) (u0 : Int) (m : mR) : Option (Sum (Int × Int × Int) (Int)) :=
  some (.inl (u0, v3, cut (v6 + 1)))
theorem dg_readPacket_277 (w : wX) (c : Nat → Option am_C) (N D : Nat) (bb : Nat) (v1 : Int) (v3 : Int) (v4 : Int) (v6 : Int) (u0 : Int) (q1 : R32 v1) (q3 : R32 v3) (q4 : R64 v4) (q6 : R32 v6) (r0 : R32 u0) (m : mR) (hm : Cn m) (j : Nat → Int) (Q2 : Sum (Int × Int × Int) (Int) → ag_Re af_T → Prop) (H1 : ∀ s j, cs_readPacket_213 s → PP bb w D pm_325 (hd_readPacket_213 c N v1 v4 m s j) (Q2 (.inl s))) (H2 : ∀ x j, cx_readPacket_213 x → PP bb w D pm_325 (ex_readPacket_213 c N v1 v4 m x j) (Q2 (.inr x))) : PP bb w D pm_325 (277, [(0, .ref 189), (1, .int (i32 v1)), (2, .int (i32 (j 2))), (3, .int (i32 v3)), (4, .long (i64 v4)), (6, .int (i32 v6))], [.int (i32 u0)], (mhp m c, N), 0, 0) (QS Q2 (rfl_readPacket_277 v1 v3 v4 v6 u0 m)) := by
  unfold rfl_readPacket_277
  show PP bb w D pm_325 (277, [(0, .ref 189), (1, .int (i32 v1)), (2, .int (i32 (j 2))), (3, .int (i32 v3)), (4, .long (i64 v4)), (6, .int (i32 v6))], [.int (i32 u0)], (mhp (mO m [] []) c, N), 0, 0) _
  refine P_sto 278 [(2, .int (i32 u0)), (0, .ref 189), (1, .int (i32 v1)), (3, .int (i32 v3)), (4, .long (i64 v4)), (6, .int (i32 v6))] rfl (fun _ => rfl) ?_
  refine P_inc 281 [(6, .int (i32 (cut (v6 + 1)))), (2, .int (i32 u0)), (0, .ref 189), (1, .int (i32 v1)), (3, .int (i32 v3)), (4, .long (i64 v4))] rfl rfl (by decide) rfl rfl ?_
  refine P_goto 213 rfl (fun _ => rfl) ?_
  refine P_some ?_
  refine P_lv (b := [(0, .ref 189), (1, .int (i32 v1)), (2, .int (i32 u0)), (3, .int (i32 v3)), (4, .long (i64 v4)), (6, .int (i32 (cut (v6 + 1))))]) rfl rfl ⟨rfl, rfl, rfl, rfl, rfl, rfl, trivial⟩ ?_
  exact H1 (u0, v3, cut (v6 + 1)) (jk []) ⟨r0, q3, cut_r⟩
def rfl_readPacket_261 (v1 : Int) (v2 : Int) (v4 : Int) (v6 : Int) (u0 : Int) (m : mR) : Option (Sum (Int × Int × Int) (Int)) :=
  if u0 = 0 then
    rfl_readPacket_277 v1 u0 v4 v6 v2 m
  else
    rfl_readPacket_277 v1 u0 v4 v6 ((m.2 45) v6) m
theorem dg_readPacket_261 (w : wX) (c : Nat → Option am_C) (N D : Nat) (bb : Nat) (v1 : Int) (v2 : Int) (v4 : Int) (v6 : Int) (u0 : Int) (q1 : R32 v1) (q2 : R32 v2) (q4 : R64 v4) (q6 : R32 v6) (r0 : R32 u0) (m : mR) (hm : Cn m) (j : Nat → Int) (Q2 : Sum (Int × Int × Int) (Int) → ag_Re af_T → Prop) (H1 : ∀ s j, cs_readPacket_213 s → PP bb w D pm_325 (hd_readPacket_213 c N v1 v4 m s j) (Q2 (.inl s))) (H2 : ∀ x j, cx_readPacket_213 x → PP bb w D pm_325 (ex_readPacket_213 c N v1 v4 m x j) (Q2 (.inr x))) : PP bb w D pm_325 (261, [(0, .ref 189), (1, .int (i32 v1)), (2, .int (i32 v2)), (3, .int (i32 (j 3))), (4, .long (i64 v4)), (6, .int (i32 v6))], [.int (i32 u0)], (mhp m c, N), 0, 0) (QS Q2 (rfl_readPacket_261 v1 v2 v4 v6 u0 m)) := by
  unfold rfl_readPacket_261
  show PP bb w D pm_325 (261, [(0, .ref 189), (1, .int (i32 v1)), (2, .int (i32 v2)), (3, .int (i32 (j 3))), (4, .long (i64 v4)), (6, .int (i32 v6))], [.int (i32 u0)], (mhp (mO m [] []) c, N), 0, 0) _
  refine P_sto 262 [(3, .int (i32 u0)), (0, .ref 189), (1, .int (i32 v1)), (2, .int (i32 v2)), (4, .long (i64 v4)), (6, .int (i32 v6))] rfl (fun _ => rfl) ?_
  refine P_ld 263 (.int (i32 u0)) rfl (fun _ => rfl) ?_
  refine P_ifF 276 266 rfl rfl rfl r0 rfl (fun h12 => ?_) (fun h12 => ?_)
  · skip
    refine P_ld 277 (.int (i32 v2)) rfl (fun _ => rfl) ?_
    refine P_lv (b := [(0, .ref 189), (1, .int (i32 v1)), (2, .int (i32 v2)), (3, .int (i32 u0)), (4, .long (i64 v4)), (6, .int (i32 v6))]) rfl rfl ⟨rfl, rfl, rfl, rfl, rfl, rfl, trivial⟩ ?_
    exact dg_readPacket_277 w c N D bb v1 u0 v4 v6 v2 q1 r0 q4 q6 q2 m hm (jk [(2, v2)]) Q2 H1 H2
  · skip
    refine P_gf 270 (.ref 215) rfl rfl rfl rfl rfl rfl ?_
    refine P_ld 272 (.int (i32 v6)) rfl (fun _ => rfl) ?_
    refine P_iald2 273 45 (m.2 45) rfl rfl rfl q6 rfl ?_
    refine P_goto 277 rfl (fun _ => rfl) ?_
    refine P_lv (b := [(0, .ref 189), (1, .int (i32 v1)), (2, .int (i32 v2)), (3, .int (i32 u0)), (4, .long (i64 v4)), (6, .int (i32 v6))]) rfl rfl ⟨rfl, rfl, rfl, rfl, rfl, rfl, trivial⟩ ?_
    exact dg_readPacket_277 w c N D bb v1 u0 v4 v6 ((m.2 45) v6) q1 r0 q4 q6 (rE_i (Cn_a hm 45) rfl _) m hm (jk [(2, v2)]) Q2 H1 H2
def rfb_readPacket_213 (v1 : Int) (v4 : Int) (m : mR) (s : Int × Int × Int) : Option (Sum (Int × Int × Int) (Int)) :=
  if cut ((cut (8 * v1)) + ((m.2 42) v1)) ≤ s.2.2 then
    some (.inr s.1)
  else
    if s.2.1 = 0 then
      if cmp64 (and64 (xor64 v4 ((m.2 97) s.2.2)) ((m.2 98) s.2.2)) 0 = 0 then
        rfl_readPacket_261 v1 s.1 v4 s.2.2 1 m
      else
        rfl_readPacket_261 v1 s.1 v4 s.2.2 0 m
    else
      some (.inr s.1)
theorem dh_readPacket_213 (w : wX) (c : Nat → Option am_C) (N D : Nat) (v1 : Int) (v4 : Int) (q1 : R32 v1) (q4 : R64 v4) (m : mR) (hm : Cn m) (bb : Nat) (Q2 : Sum (Int × Int × Int) (Int) → ag_Re af_T → Prop) (H1 : ∀ s j, cs_readPacket_213 s → PP bb w D pm_325 (hd_readPacket_213 c N v1 v4 m s j) (Q2 (.inl s))) (H2 : ∀ x j, cx_readPacket_213 x → PP bb w D pm_325 (ex_readPacket_213 c N v1 v4 m x j) (Q2 (.inr x))) (s : Int × Int × Int) (j : Nat → Int) (hs : cs_readPacket_213 s) : PP (bb + 1) w D pm_325 (hd_readPacket_213 c N v1 v4 m s j) (QS Q2 (rfb_readPacket_213 v1 v4 m s)) := by
  obtain ⟨g2, g3, g6⟩ := hs
  unfold rfb_readPacket_213
  show PP (bb + 1) w D pm_325 (213, [(0, .ref 189), (1, .int (i32 v1)), (2, .int (i32 s.1)), (3, .int (i32 s.2.1)), (4, .long (i64 v4)), (6, .int (i32 s.2.2))], [], (mhp (mO m [] []) c, N), 0, 0) _
  refine P1_ld 215 (.int (i32 s.2.2)) rfl (fun _ => rfl) ?_
  refine P_ld 217 (.int (i32 8)) rfl (fun _ => rfl) ?_
  refine P_ld 218 (.int (i32 v1)) rfl (fun _ => rfl) ?_
  refine P_op 219 (cut (8 * v1)) _ rfl (fun _ => rfl) o_mul ?_
  refine P_gf 223 (.ref 212) rfl rfl rfl rfl rfl rfl ?_
  refine P_ld 224 (.int (i32 v1)) rfl (fun _ => rfl) ?_
  refine P_iald2 225 42 (m.2 42) rfl rfl rfl q1 rfl ?_
  refine P_op 226 (cut ((cut (8 * v1)) + ((m.2 42) v1))) _ rfl (fun _ => rfl) o_add ?_
  refine P_icF 284 229 rfl rfl rfl g6 cut_r rfl (fun h14 => ?_) (fun h14 => ?_)
  · skip
    refine P_some ?_
    exact H2 s.1 (jk [(1, v1), (3, s.2.1), (4, v4), (6, s.2.2)]) g2
  · skip
    refine P_ld 230 (.int (i32 s.2.1)) rfl (fun _ => rfl) ?_
    refine P_ifE 284 233 rfl rfl rfl g3 rfl (fun h15 => ?_) (fun h15 => ?_)
    · skip
      refine P_ld 235 (.long (i64 v4)) rfl (fun _ => rfl) ?_
      refine P_gf 239 (.ref 259) rfl rfl rfl rfl rfl rfl ?_
      refine P_ld 241 (.int (i32 s.2.2)) rfl (fun _ => rfl) ?_
      refine P_lald2 242 97 (m.2 97) rfl rfl rfl g6 rfl ?_
      refine P_opl 243 (xor64 v4 ((m.2 97) s.2.2)) _ rfl (fun _ => rfl) (Int64.ofInt_toInt _).symm ?_
      refine P_gf 247 (.ref 260) rfl rfl rfl rfl rfl rfl ?_
      refine P_ld 249 (.int (i32 s.2.2)) rfl (fun _ => rfl) ?_
      refine P_lald2 250 98 (m.2 98) rfl rfl rfl g6 rfl ?_
      refine P_opl 251 (and64 (xor64 v4 ((m.2 97) s.2.2)) ((m.2 98) s.2.2)) _ rfl (fun _ => rfl) (Int64.ofInt_toInt _).symm ?_
      refine P_ld 252 (.long (i64 0)) rfl (fun _ => rfl) ?_
      refine P_op 253 (cmp64 (and64 (xor64 v4 ((m.2 97) s.2.2)) ((m.2 98) s.2.2)) 0) _ rfl (fun _ => rfl) (o_cmp t64_r (l64 0 rfl)) ?_
      refine P_ifE 260 256 rfl rfl rfl cmp64_r rfl (fun h16 => ?_) (fun h16 => ?_)
      · skip
        refine P_ld 257 (.int (i32 1)) rfl (fun _ => rfl) ?_
        refine P_goto 261 rfl (fun _ => rfl) ?_
        exact dg_readPacket_261 w c N D bb v1 s.1 v4 s.2.2 1 q1 g2 q4 g6 (l32 1 rfl) m hm (jk [(3, s.2.1)]) Q2 H1 H2
      · skip
        refine P_ld 261 (.int (i32 0)) rfl (fun _ => rfl) ?_
        exact dg_readPacket_261 w c N D bb v1 s.1 v4 s.2.2 0 q1 g2 q4 g6 (l32 0 rfl) m hm (jk [(3, s.2.1)]) Q2 H1 H2
    · skip
      refine P_some ?_
      exact H2 s.1 (jk [(1, v1), (3, s.2.1), (4, v4), (6, s.2.2)]) g2
def rfl_readPacket_205 (v1 : Int) (v2 : Int) (v3 : Int) (u0 : Int) (m : mR) : Option (Sum (Int × mR) (Sum (mR) (Int × mR))) :=
  bnd (whl (rfb_readPacket_213 v1 u0 m) (v2, v3, cut (8 * v1))) (fun e17 : Int =>
    rfl_readPacket_284 e17 m)
theorem dg_readPacket_205 (w : wX) (c : Nat → Option am_C) (N D : Nat) (bb : Nat) (v1 : Int) (v2 : Int) (v3 : Int) (u0 : Int) (q1 : R32 v1) (q2 : R32 v2) (q3 : R32 v3) (r0 : R64 u0) (m : mR) (hm : Cn m) (j : Nat → Int) (Q2 : Sum (Int × mR) (Sum (mR) (Int × mR)) → ag_Re af_T → Prop) (H1 : ∀ s j, cs_readPacket_117 s → PP bb w D pm_325 (hd_readPacket_117 c N s j) (Q2 (.inl s))) (H2 : ∀ x j, cx_readPacket_117 x → PP bb w D pm_325 (ex_readPacket_117 c N x j) (Q2 (.inr x))) : PP bb w D pm_325 (205, [(0, .ref 189), (1, .int (i32 v1)), (2, .int (i32 v2)), (3, .int (i32 v3)), (4, .long (i64 (j 4))), (6, .int (i32 (j 6)))], [.long (i64 u0)], (mhp m c, N), 0, 0) (QS Q2 (rfl_readPacket_205 v1 v2 v3 u0 m)) := by
  unfold rfl_readPacket_205
  show PP bb w D pm_325 (205, [(0, .ref 189), (1, .int (i32 v1)), (2, .int (i32 v2)), (3, .int (i32 v3)), (4, .long (i64 (j 4))), (6, .int (i32 (j 6)))], [.long (i64 u0)], (mhp (mO m [] []) c, N), 0, 0) _
  refine P_sto 207 [(4, .long (i64 u0)), (0, .ref 189), (1, .int (i32 v1)), (2, .int (i32 v2)), (3, .int (i32 v3)), (6, .int (i32 (j 6)))] rfl (fun _ => rfl) ?_
  refine P_ld 209 (.int (i32 8)) rfl (fun _ => rfl) ?_
  refine P_ld 210 (.int (i32 v1)) rfl (fun _ => rfl) ?_
  refine P_op 211 (cut (8 * v1)) _ rfl (fun _ => rfl) o_mul ?_
  refine P_sto 213 [(6, .int (i32 (cut (8 * v1)))), (4, .long (i64 u0)), (0, .ref 189), (1, .int (i32 v1)), (2, .int (i32 v2)), (3, .int (i32 v3))] rfl (fun _ => rfl) ?_
  refine P_lv (b := [(0, .ref 189), (1, .int (i32 v1)), (2, .int (i32 v2)), (3, .int (i32 v3)), (4, .long (i64 u0)), (6, .int (i32 (cut (8 * v1))))]) rfl rfl ⟨rfl, rfl, rfl, rfl, rfl, rfl, trivial⟩ ?_
  refine P_bnd ?_
  refine P_whl (fun bb Q2 H1 H2 s9 j9 hs9 => dh_readPacket_213 w c N D v1 u0 q1 r0 m hm bb Q2 H1 H2 s9 j9 hs9) bb (fun e17 j q18 => ?_) (v2, v3, cut (8 * v1)) (jk []) ⟨q2, q3, cut_r⟩
  have q19 := q18
  show PP bb w D pm_325 (284, [(0, .ref 189), (1, .int (i32 (j 1))), (2, .int (i32 e17)), (3, .int (i32 (j 3))), (4, .long (i64 (j 4))), (6, .int (i32 (j 6)))], [], (mhp (mO m [] []) c, N), 0, 0) (QS _ (rfl_readPacket_284 e17 m))
  exact dg_readPacket_284 w c N D bb e17 q19 m hm (jk [(1, j 1), (3, j 3), (4, j 4), (6, j 6)]) Q2 H1 H2
def rfl_readPacket_180 (v1 : Int) (v2 : Int) (u0 : Int) (m : mR) : Option (Sum (Int × mR) (Sum (mR) (Int × mR))) :=
  if u0 = 0 then
    bnd (rf_worth ((m.2 95) v1) ((m.2 96) v1) m) fun y21 =>
    rfl_readPacket_205 v1 v2 u0 y21.1 y21.2
  else
    rfl_readPacket_205 v1 v2 u0 0 m
theorem dg_readPacket_180 (w : wX) (c : Nat → Option am_C) (N D : Nat) (bb : Nat) (v1 : Int) (v2 : Int) (u0 : Int) (q1 : R32 v1) (q2 : R32 v2) (r0 : R32 u0) (m : mR) (hm : Cn m) (j : Nat → Int) (Q2 : Sum (Int × mR) (Sum (mR) (Int × mR)) → ag_Re af_T → Prop) (H1 : ∀ s j, cs_readPacket_117 s → PP bb w D pm_325 (hd_readPacket_117 c N s j) (Q2 (.inl s))) (H2 : ∀ x j, cx_readPacket_117 x → PP bb w D pm_325 (ex_readPacket_117 c N x j) (Q2 (.inr x))) : PP bb w D pm_325 (180, [(0, .ref 189), (1, .int (i32 v1)), (2, .int (i32 v2)), (3, .int (i32 (j 3))), (4, .long (i64 (j 4))), (6, .int (i32 (j 6)))], [.int (i32 u0)], (mhp m c, N), 0, 0) (QS Q2 (rfl_readPacket_180 v1 v2 u0 m)) := by
  unfold rfl_readPacket_180
  show PP bb w D pm_325 (180, [(0, .ref 189), (1, .int (i32 v1)), (2, .int (i32 v2)), (3, .int (i32 (j 3))), (4, .long (i64 (j 4))), (6, .int (i32 (j 6)))], [.int (i32 u0)], (mhp (mO m [] []) c, N), 0, 0) _
  refine P_sto 181 [(3, .int (i32 u0)), (0, .ref 189), (1, .int (i32 v1)), (2, .int (i32 v2)), (4, .long (i64 (j 4))), (6, .int (i32 (j 6)))] rfl (fun _ => rfl) ?_
  refine P_ld 182 (.int (i32 u0)) rfl (fun _ => rfl) ?_
  refine P_ifF 189 185 rfl rfl rfl r0 rfl (fun h20 => ?_) (fun h20 => ?_)
  · skip
    refine P_ld 190 (.ref 189) rfl (fun _ => rfl) ?_
    refine P_gf 194 (.ref 257) rfl rfl rfl rfl rfl rfl ?_
    refine P_ld 195 (.int (i32 v1)) rfl (fun _ => rfl) ?_
    refine P_iald2 196 95 (m.2 95) rfl rfl rfl q1 rfl ?_
    refine P_gf 200 (.ref 258) rfl rfl rfl rfl rfl rfl ?_
    refine P_ld 201 (.int (i32 v1)) rfl (fun _ => rfl) ?_
    refine P_iald2 202 96 (m.2 96) rfl rfl rfl q1 rfl ?_
    refine P_ca2 205 327 [.ref 189, .int (i32 ((m.2 95) v1)), .int (i32 ((m.2 96) v1))] [] rfl (fun _ => rfl) rfl (D_worth w m c N D hm ((m.2 95) v1) ((m.2 96) v1) (rE_i (Cn_a hm 95) rfl _) (rE_i (Cn_a hm 96) rfl _)) (fun y21 h22 n23 => ?_)
    refine P_lv (b := [(0, .ref 189), (1, .int (i32 v1)), (2, .int (i32 v2)), (3, .int (i32 u0)), (4, .long (i64 (j 4))), (6, .int (i32 (j 6)))]) rfl rfl ⟨rfl, rfl, rfl, rfl, rfl, rfl, trivial⟩ ?_
    exact dg_readPacket_205 w c N D bb v1 v2 u0 y21.1 q1 q2 r0 h22 y21.2 n23 (jk [(4, j 4), (6, j 6)]) Q2 H1 H2
  · skip
    refine P_ld 186 (.long (i64 0)) rfl (fun _ => rfl) ?_
    refine P_goto 205 rfl (fun _ => rfl) ?_
    refine P_lv (b := [(0, .ref 189), (1, .int (i32 v1)), (2, .int (i32 v2)), (3, .int (i32 u0)), (4, .long (i64 (j 4))), (6, .int (i32 (j 6)))]) rfl rfl ⟨rfl, rfl, rfl, rfl, rfl, rfl, trivial⟩ ?_
    exact dg_readPacket_205 w c N D bb v1 v2 u0 0 q1 q2 r0 (l64 0 rfl) m hm (jk [(4, j 4), (6, j 6)]) Q2 H1 H2
def rfl_readPacket_159 (v1 : Int) (m : mR) : Option (Sum (Int × mR) (Sum (mR) (Int × mR))) :=
  if (m.2 42) v1 = 0 then
    rfl_readPacket_180 v1 ((m.2 44) v1) 1 m
  else
    rfl_readPacket_180 v1 ((m.2 44) v1) 0 m
theorem dg_readPacket_159 (w : wX) (c : Nat → Option am_C) (N D : Nat) (bb : Nat) (v1 : Int) (q1 : R32 v1) (m : mR) (hm : Cn m) (j : Nat → Int) (Q2 : Sum (Int × mR) (Sum (mR) (Int × mR)) → ag_Re af_T → Prop) (H1 : ∀ s j, cs_readPacket_117 s → PP bb w D pm_325 (hd_readPacket_117 c N s j) (Q2 (.inl s))) (H2 : ∀ x j, cx_readPacket_117 x → PP bb w D pm_325 (ex_readPacket_117 c N x j) (Q2 (.inr x))) : PP bb w D pm_325 (159, [(0, .ref 189), (1, .int (i32 v1)), (2, .int (i32 (j 2))), (3, .int (i32 (j 3))), (4, .long (i64 (j 4))), (6, .int (i32 (j 6)))], [], (mhp m c, N), 0, 0) (QS Q2 (rfl_readPacket_159 v1 m)) := by
  unfold rfl_readPacket_159
  show PP bb w D pm_325 (159, [(0, .ref 189), (1, .int (i32 v1)), (2, .int (i32 (j 2))), (3, .int (i32 (j 3))), (4, .long (i64 (j 4))), (6, .int (i32 (j 6)))], [], (mhp (mO m [] []) c, N), 0, 0) _
  refine P_gf 163 (.ref 214) rfl rfl rfl rfl rfl rfl ?_
  refine P_ld 164 (.int (i32 v1)) rfl (fun _ => rfl) ?_
  refine P_iald2 165 44 (m.2 44) rfl rfl rfl q1 rfl ?_
  refine P_sto 166 [(2, .int (i32 ((m.2 44) v1))), (0, .ref 189), (1, .int (i32 v1)), (3, .int (i32 (j 3))), (4, .long (i64 (j 4))), (6, .int (i32 (j 6)))] rfl (fun _ => rfl) ?_
  refine P_gf 170 (.ref 212) rfl rfl rfl rfl rfl rfl ?_
  refine P_ld 171 (.int (i32 v1)) rfl (fun _ => rfl) ?_
  refine P_iald2 172 42 (m.2 42) rfl rfl rfl q1 rfl ?_
  refine P_ifE 179 175 rfl rfl rfl (rE_i (Cn_a hm 42) rfl _) rfl (fun h24 => ?_) (fun h24 => ?_)
  · skip
    refine P_ld 176 (.int (i32 1)) rfl (fun _ => rfl) ?_
    refine P_goto 180 rfl (fun _ => rfl) ?_
    refine P_lv (b := [(0, .ref 189), (1, .int (i32 v1)), (2, .int (i32 ((m.2 44) v1))), (3, .int (i32 (j 3))), (4, .long (i64 (j 4))), (6, .int (i32 (j 6)))]) rfl rfl ⟨rfl, rfl, rfl, rfl, rfl, rfl, trivial⟩ ?_
    exact dg_readPacket_180 w c N D bb v1 ((m.2 44) v1) 1 q1 (rE_i (Cn_a hm 44) rfl _) (l32 1 rfl) m hm (jk [(3, j 3), (4, j 4), (6, j 6)]) Q2 H1 H2
  · skip
    refine P_ld 180 (.int (i32 0)) rfl (fun _ => rfl) ?_
    refine P_lv (b := [(0, .ref 189), (1, .int (i32 v1)), (2, .int (i32 ((m.2 44) v1))), (3, .int (i32 (j 3))), (4, .long (i64 (j 4))), (6, .int (i32 (j 6)))]) rfl rfl ⟨rfl, rfl, rfl, rfl, rfl, rfl, trivial⟩ ?_
    exact dg_readPacket_180 w c N D bb v1 ((m.2 44) v1) 0 q1 (rE_i (Cn_a hm 44) rfl _) (l32 0 rfl) m hm (jk [(3, j 3), (4, j 4), (6, j 6)]) Q2 H1 H2
def rfl_readPacket_148 (v1 : Int) (v2 : Int) (u0 : Int) (m : mR) : Option (Sum (Int × mR) (Sum (mR) (mR))) :=
  if u0 = 0 then
    some (.inr (.inl m))
  else
    some (.inl (cut (v2 + 1), m))
theorem dg_readPacket_148 (w : wX) (c : Nat → Option am_C) (N D : Nat) (bb : Nat) (v1 : Int) (v2 : Int) (u0 : Int) (q1 : R32 v1) (q2 : R32 v2) (r0 : R32 u0) (m : mR) (hm : Cn m) (j : Nat → Int) (Q2 : Sum (Int × mR) (Sum (mR) (mR)) → ag_Re af_T → Prop) (H1 : ∀ s j, cs_readPacket_123 s → PP bb w D pm_325 (hd_readPacket_123 c N v1 s j) (Q2 (.inl s))) (H2 : ∀ x j, cx_readPacket_123 x → PP bb w D pm_325 (ex_readPacket_123 c N v1 x j) (Q2 (.inr x))) : PP bb w D pm_325 (148, [(0, .ref 189), (1, .int (i32 v1)), (2, .int (i32 v2)), (3, .int (i32 (j 3))), (4, .long (i64 (j 4))), (6, .int (i32 (j 6)))], [.int (i32 u0)], (mhp m c, N), 0, 0) (QS Q2 (rfl_readPacket_148 v1 v2 u0 m)) := by
  unfold rfl_readPacket_148
  show PP bb w D pm_325 (148, [(0, .ref 189), (1, .int (i32 v1)), (2, .int (i32 v2)), (3, .int (i32 (j 3))), (4, .long (i64 (j 4))), (6, .int (i32 (j 6)))], [.int (i32 u0)], (mhp (mO m [] []) c, N), 0, 0) _
  refine P_ifE 153 151 rfl rfl rfl r0 rfl (fun h25 => ?_) (fun h25 => ?_)
  · skip
    refine P_some ?_
    exact H2 (.inl m) (jk [(1, v1), (2, v2), (3, j 3), (4, j 4), (6, j 6)]) hm
  · skip
    refine P_inc 156 [(2, .int (i32 (cut (v2 + 1)))), (0, .ref 189), (1, .int (i32 v1)), (3, .int (i32 (j 3))), (4, .long (i64 (j 4))), (6, .int (i32 (j 6)))] rfl rfl (by decide) rfl rfl ?_
    refine P_goto 123 rfl (fun _ => rfl) ?_
    refine P_some ?_
    refine P_lv (b := [(0, .ref 189), (1, .int (i32 v1)), (2, .int (i32 (cut (v2 + 1)))), (3, .int (i32 (j 3))), (4, .long (i64 (j 4))), (6, .int (i32 (j 6)))]) rfl rfl ⟨rfl, rfl, rfl, rfl, rfl, rfl, trivial⟩ ?_
    exact H1 (cut (v2 + 1), m) (jk [(3, j 3), (4, j 4), (6, j 6)]) ⟨cut_r, hm⟩
def rfb_readPacket_123 (v1 : Int) (s : Int × mR) : Option (Sum (Int × mR) (Sum (mR) (mR))) :=
  if (s.2.2 41) v1 ≤ s.1 then
    some (.inr (.inr s.2))
  else
    bnd (rf_extract ((s.2.2 94) (cut ((cut (6 * v1)) + s.1))) s.2) fun y29 =>
    rfl_readPacket_148 v1 s.1 y29.1 y29.2
theorem dh_readPacket_123 (w : wX) (c : Nat → Option am_C) (N D : Nat) (v1 : Int) (q1 : R32 v1) (bb : Nat) (Q2 : Sum (Int × mR) (Sum (mR) (mR)) → ag_Re af_T → Prop) (H1 : ∀ s j, cs_readPacket_123 s → PP bb w D pm_325 (hd_readPacket_123 c N v1 s j) (Q2 (.inl s))) (H2 : ∀ x j, cx_readPacket_123 x → PP bb w D pm_325 (ex_readPacket_123 c N v1 x j) (Q2 (.inr x))) (s : Int × mR) (j : Nat → Int) (hs : cs_readPacket_123 s) : PP (bb + 1) w D pm_325 (hd_readPacket_123 c N v1 s j) (QS Q2 (rfb_readPacket_123 v1 s)) := by
  obtain ⟨g2, gm⟩ := hs
  unfold rfb_readPacket_123
  show PP (bb + 1) w D pm_325 (123, [(0, .ref 189), (1, .int (i32 v1)), (2, .int (i32 s.1)), (3, .int (i32 (j 3))), (4, .long (i64 (j 4))), (6, .int (i32 (j 6)))], [], (mhp (mO s.2 [] []) c, N), 0, 0) _
  refine P1_ld 124 (.int (i32 s.1)) rfl (fun _ => rfl) ?_
  refine P_gf 128 (.ref 211) rfl rfl rfl rfl rfl rfl ?_
  refine P_ld 129 (.int (i32 v1)) rfl (fun _ => rfl) ?_
  refine P_iald2 130 41 (s.2.2 41) rfl rfl rfl q1 rfl ?_
  refine P_icF 159 133 rfl rfl rfl g2 (rE_i (Cn_a gm 41) rfl _) rfl (fun h28 => ?_) (fun h28 => ?_)
  · skip
    refine P_some ?_
    exact H2 (.inr s.2) (jk [(2, s.1), (3, j 3), (4, j 4), (6, j 6)]) gm
  · skip
    refine P_ld 134 (.ref 189) rfl (fun _ => rfl) ?_
    refine P_gf 138 (.ref 256) rfl rfl rfl rfl rfl rfl ?_
    refine P_ld 140 (.int (i32 6)) rfl (fun _ => rfl) ?_
    refine P_ld 141 (.int (i32 v1)) rfl (fun _ => rfl) ?_
    refine P_op 142 (cut (6 * v1)) _ rfl (fun _ => rfl) o_mul ?_
    refine P_ld 143 (.int (i32 s.1)) rfl (fun _ => rfl) ?_
    refine P_op 144 (cut ((cut (6 * v1)) + s.1)) _ rfl (fun _ => rfl) o_add ?_
    refine P_iald2 145 94 (s.2.2 94) rfl rfl rfl cut_r rfl ?_
    refine P_ca1 148 326 [.ref 189, .int (i32 ((s.2.2 94) (cut ((cut (6 * v1)) + s.1))))] [] rfl (fun _ => rfl) rfl (D_extract w s.2 c N D gm ((s.2.2 94) (cut ((cut (6 * v1)) + s.1))) (rE_i (Cn_a gm 94) rfl _)) (fun y29 h30 n31 => ?_)
    exact dg_readPacket_148 w c N D bb v1 s.1 y29.1 q1 g2 h30 y29.2 n31 (jk [(3, j 3), (4, j 4), (6, j 6)]) Q2 H1 H2
def rfb_readPacket_117 (s : Int × mR) : Option (Sum (Int × mR) (Sum (mR) (Int × mR))) :=
  if s.1 < 0 then
    some (.inr (.inr (s.1, s.2)))
  else
    bnd (whl (rfb_readPacket_123 s.1) (0, s.2)) (sel
      (fun e36 : mR =>
        some (.inr (.inl e36)))
      (fun e39 : mR =>
        rfl_readPacket_159 s.1 e39))
theorem dh_readPacket_117 (w : wX) (c : Nat → Option am_C) (N D : Nat) (bb : Nat) (Q2 : Sum (Int × mR) (Sum (mR) (Int × mR)) → ag_Re af_T → Prop) (H1 : ∀ s j, cs_readPacket_117 s → PP bb w D pm_325 (hd_readPacket_117 c N s j) (Q2 (.inl s))) (H2 : ∀ x j, cx_readPacket_117 x → PP bb w D pm_325 (ex_readPacket_117 c N x j) (Q2 (.inr x))) (s : Int × mR) (j : Nat → Int) (hs : cs_readPacket_117 s) : PP (bb + 1) w D pm_325 (hd_readPacket_117 c N s j) (QS Q2 (rfb_readPacket_117 s)) := by
  obtain ⟨g1, gm⟩ := hs
  unfold rfb_readPacket_117
  show PP (bb + 1) w D pm_325 (117, [(0, .ref 189), (1, .int (i32 s.1)), (2, .int (i32 (j 2))), (3, .int (i32 (j 3))), (4, .long (i64 (j 4))), (6, .int (i32 (j 6)))], [], (mhp (mO s.2 [] []) c, N), 0, 0) _
  refine P1_ld 118 (.int (i32 s.1)) rfl (fun _ => rfl) ?_
  refine P_ifF 302 121 rfl rfl rfl g1 rfl (fun h35 => ?_) (fun h35 => ?_)
  · skip
    refine P_some ?_
    exact H2 (.inr (s.1, s.2)) (jk [(2, j 2), (3, j 3), (4, j 4), (6, j 6)]) ⟨g1, gm⟩
  · skip
    refine P_ld 122 (.int (i32 0)) rfl (fun _ => rfl) ?_
    refine P_sto 123 [(2, .int (i32 0)), (0, .ref 189), (1, .int (i32 s.1)), (3, .int (i32 (j 3))), (4, .long (i64 (j 4))), (6, .int (i32 (j 6)))] rfl (fun _ => rfl) ?_
    refine P_lv (b := [(0, .ref 189), (1, .int (i32 s.1)), (2, .int (i32 0)), (3, .int (i32 (j 3))), (4, .long (i64 (j 4))), (6, .int (i32 (j 6)))]) rfl rfl ⟨rfl, rfl, rfl, rfl, rfl, rfl, trivial⟩ ?_
    refine P_bnd ?_
    refine P_whl (fun bb Q2 H1 H2 s9 j9 hs9 => dh_readPacket_123 w c N D s.1 g1 bb Q2 H1 H2 s9 j9 hs9) bb (fun x0 j hx0 => ?_) (0, s.2) (jk [(3, j 3), (4, j 4), (6, j 6)]) ⟨(l32 0 rfl), gm⟩
    cases x0 with
    | inl e36 =>
      have q37 := hx0
      have q38 := q37
      show PP bb w D pm_325 (151, [(0, .ref 189), (1, .int (i32 (j 1))), (2, .int (i32 (j 2))), (3, .int (i32 (j 3))), (4, .long (i64 (j 4))), (6, .int (i32 (j 6)))], [], (mhp (mO e36 [] []) c, N), 0, 0) (QS _ (some (Sum.inr (Sum.inl e36))))
      refine P_some ?_
      exact H2 (.inl e36) (jk [(1, j 1), (2, j 2), (3, j 3), (4, j 4), (6, j 6)]) q38
    | inr e39 =>
      have q40 := hx0
      have q41 := q40
      show PP bb w D pm_325 (159, [(0, .ref 189), (1, .int (i32 s.1)), (2, .int (i32 (j 2))), (3, .int (i32 (j 3))), (4, .long (i64 (j 4))), (6, .int (i32 (j 6)))], [], (mhp (mO e39 [] []) c, N), 0, 0) (QS _ (rfl_readPacket_159 s.1 e39))
      exact dg_readPacket_159 w c N D bb s.1 g1 e39 q41 (jk [(2, j 2), (3, j 3), (4, j 4), (6, j 6)]) Q2 H1 H2
def rfl_readPacket_116 (u0 : Int) (m : mR) : Option (Int × mR) :=
  bnd (whl rfb_readPacket_117 (u0, m)) (sel
    (fun e42 : mR =>
      some (0, e42))
    (fun e45 : Int × mR =>
      rfl_readPacket_302 e45.1 e45.2))
theorem dg_readPacket_116 (w : wX) (c : Nat → Option am_C) (N D : Nat) (bb : Nat) (u0 : Int) (r0 : R32 u0) (m : mR) (hm : Cn m) (j : Nat → Int) : PP bb w D pm_325 (116, [(0, .ref 189), (1, .int (i32 (j 1)))], [.int (i32 u0)], (mhp m c, N), 0, 0) (QS (FR1 c N) (rfl_readPacket_116 u0 m)) := by
  unfold rfl_readPacket_116
  show PP bb w D pm_325 (116, [(0, .ref 189), (1, .int (i32 (j 1)))], [.int (i32 u0)], (mhp (mO m [] []) c, N), 0, 0) _
  refine P_sto 117 [(1, .int (i32 u0)), (0, .ref 189)] rfl (fun _ => rfl) ?_
  refine P_lv (b := [(0, .ref 189), (1, .int (i32 u0)), (2, .int (i32 0)), (3, .int (i32 0)), (4, .long (i64 0)), (6, .int (i32 0))]) rfl rfl ⟨rfl, rfl, trivial⟩ ?_
  refine P_bnd ?_
  refine P_whl (fun bb Q2 H1 H2 s9 j9 hs9 => dh_readPacket_117 w c N D bb Q2 H1 H2 s9 j9 hs9) bb (fun x0 j hx0 => ?_) (u0, m) (jk []) ⟨r0, hm⟩
  cases x0 with
  | inl e42 =>
    have q43 := hx0
    have q44 := q43
    show PP bb w D pm_325 (151, [(0, .ref 189), (1, .int (i32 (j 1))), (2, .int (i32 (j 2))), (3, .int (i32 (j 3))), (4, .long (i64 (j 4))), (6, .int (i32 (j 6)))], [], (mhp (mO e42 [] []) c, N), 0, 0) (QS _ (some (0, e42)))
    refine P_ld 152 (.int (i32 0)) rfl (fun _ => rfl) ?_
    exact P_re1 rfl (l32 0 rfl) q44
  | inr e45 =>
    have q46 := hx0
    obtain ⟨q47, q48⟩ := q46
    show PP bb w D pm_325 (302, [(0, .ref 189), (1, .int (i32 e45.1)), (2, .int (i32 (j 2))), (3, .int (i32 (j 3))), (4, .long (i64 (j 4))), (6, .int (i32 (j 6)))], [], (mhp (mO e45.2 [] []) c, N), 0, 0) (QS _ (rfl_readPacket_302 e45.1 e45.2))
    exact dg_readPacket_302 w c N D bb e45.1 q47 e45.2 q48 (jk [(2, j 2), (3, j 3), (4, j 4), (6, j 6)])
def rfl_readPacket_64 (m : mR) : Option (Int × mR) :=
  if m.1 24 ≤ 0 then
    rfl_readPacket_116 (-1) (mO m [(176, 0), (177, 0)] [(172, upI (upI (m.2 172) 0 (and32 ((m.2 155) 0) 65535)) 1 ((m.2 154) 0))])
  else
    rfl_readPacket_116 0 (mO m [(176, 0), (177, 0)] [(172, upI (upI (m.2 172) 0 (and32 ((m.2 155) 0) 65535)) 1 ((m.2 154) 0))])
theorem dg_readPacket_64 (w : wX) (c : Nat → Option am_C) (N D : Nat) (bb : Nat) (m : mR) (hm : Cn m) (j : Nat → Int) : PP bb w D pm_325 (64, [(0, .ref 189), (1, .int (i32 (j 1)))], [], (mhp m c, N), 0, 0) (QS (FR1 c N) (rfl_readPacket_64 m)) := by
  unfold rfl_readPacket_64
  show PP bb w D pm_325 (64, [(0, .ref 189), (1, .int (i32 (j 1)))], [], (mhp (mO m [] []) c, N), 0, 0) _
  refine P_gf 68 (.ref 321) rfl rfl rfl rfl rfl rfl ?_
  refine P_ld 69 (.int (i32 0)) rfl (fun _ => rfl) ?_
  refine P_gf 73 (.ref 304) rfl rfl rfl rfl rfl rfl ?_
  refine P_ld 74 (.int (i32 0)) rfl (fun _ => rfl) ?_
  refine P_iald2 75 155 (m.2 155) rfl rfl rfl (l32 0 rfl) rfl ?_
  refine P_ld 78 (.int (i32 65535)) rfl (fun _ => rfl) ?_
  refine P_op 79 (and32 ((m.2 155) 0) 65535) _ rfl (fun _ => rfl) (i32_of _).symm ?_
  refine P_opl 80 (and32 ((m.2 155) 0) 65535) _ rfl (fun _ => rfl) (o_i2l t32_r) ?_
  refine P_last2 (a' := [(172, upI (m.2 172) 0 (and32 ((m.2 155) 0) 65535))]) 81 172 (m.2 172) rfl rfl rfl (l32 0 rfl) rfl rfl ?_
  refine P_gf 85 (.ref 321) rfl rfl rfl rfl rfl rfl ?_
  refine P_ld 86 (.int (i32 1)) rfl (fun _ => rfl) ?_
  refine P_gf 90 (.ref 303) rfl rfl rfl rfl rfl rfl ?_
  refine P_ld 91 (.int (i32 0)) rfl (fun _ => rfl) ?_
  refine P_iald2 92 154 (m.2 154) rfl rfl rfl (l32 0 rfl) rfl ?_
  refine P_opl 93 ((m.2 154) 0) _ rfl (fun _ => rfl) (o_i2l (rE_i (Cn_a hm 154) rfl _)) ?_
  refine P_last2 (a' := [(172, upI (upI (m.2 172) 0 (and32 ((m.2 155) 0) 65535)) 1 ((m.2 154) 0))]) 94 172 (upI (m.2 172) 0 (and32 ((m.2 155) 0) 65535)) rfl rfl rfl (l32 1 rfl) rfl rfl ?_
  refine P_ld 95 (.ref 189) rfl (fun _ => rfl) ?_
  refine P_ld 96 (.int (i32 0)) rfl (fun _ => rfl) ?_
  refine P_pf (l' := [(176, 0)]) 99 0 rfl rfl rfl rfl rfl rfl ?_
  refine P_ld 100 (.ref 189) rfl (fun _ => rfl) ?_
  refine P_ld 101 (.int (i32 0)) rfl (fun _ => rfl) ?_
  refine P_pf (l' := [(176, 0), (177, 0)]) 104 0 rfl rfl rfl rfl rfl rfl ?_
  refine P_gf 108 (.int (i32 (m.1 24))) rfl rfl rfl rfl rfl rfl ?_
  refine P_ifF 115 111 rfl rfl rfl (Cn_i hm 24 rfl) rfl (fun h49 => ?_) (fun h49 => ?_)
  · skip
    refine P_ld 116 (.int (i32 (-1))) rfl (fun _ => rfl) ?_
    exact dg_readPacket_116 w c N D bb (-1) (l32 (-1) rfl) (mO m [(176, 0), (177, 0)] [(172, upI (upI (m.2 172) 0 (and32 ((m.2 155) 0) 65535)) 1 ((m.2 154) 0))]) (Cn_mO hm ⟨(rV_i rfl (l32 0 rfl)), (rV_i rfl (l32 0 rfl)), trivial⟩ ⟨(rE_ul (rE_ul (Cn_a hm 172) rfl (R32_64 t32_r)) rfl (R32_64 (rE_i (Cn_a hm 154) rfl _))), trivial⟩) (jk [(1, j 1)])
  · skip
    refine P_ld 112 (.int (i32 0)) rfl (fun _ => rfl) ?_
    refine P_goto 116 rfl (fun _ => rfl) ?_
    exact dg_readPacket_116 w c N D bb 0 (l32 0 rfl) (mO m [(176, 0), (177, 0)] [(172, upI (upI (m.2 172) 0 (and32 ((m.2 155) 0) 65535)) 1 ((m.2 154) 0))]) (Cn_mO hm ⟨(rV_i rfl (l32 0 rfl)), (rV_i rfl (l32 0 rfl)), trivial⟩ ⟨(rE_ul (rE_ul (Cn_a hm 172) rfl (R32_64 t32_r)) rfl (R32_64 (rE_i (Cn_a hm 154) rfl _))), trivial⟩) (jk [(1, j 1)])
def rfb_readPacket_45 (s : Int × mR) : Option (Sum (Int × mR) (mR)) :=
  if (16 : Int) ≤ s.1 then
    some (.inr s.2)
  else
    some (.inl (cut (s.1 + 1), (mO s.2 [] [(172, upI (s.2.2 172) s.1 0)])))
theorem dh_readPacket_45 (w : wX) (c : Nat → Option am_C) (N D : Nat) (bb : Nat) (Q2 : Sum (Int × mR) (mR) → ag_Re af_T → Prop) (H1 : ∀ s j, cs_readPacket_45 s → PP bb w D pm_325 (hd_readPacket_45 c N s j) (Q2 (.inl s))) (H2 : ∀ x j, cx_readPacket_45 x → PP bb w D pm_325 (ex_readPacket_45 c N x j) (Q2 (.inr x))) (s : Int × mR) (j : Nat → Int) (hs : cs_readPacket_45 s) : PP (bb + 1) w D pm_325 (hd_readPacket_45 c N s j) (QS Q2 (rfb_readPacket_45 s)) := by
  obtain ⟨g1, gm⟩ := hs
  unfold rfb_readPacket_45
  show PP (bb + 1) w D pm_325 (45, [(0, .ref 189), (1, .int (i32 s.1))], [], (mhp (mO s.2 [] []) c, N), 0, 0) _
  refine P1_ld 46 (.int (i32 s.1)) rfl (fun _ => rfl) ?_
  refine P_ld 48 (.int (i32 16)) rfl (fun _ => rfl) ?_
  refine P_icF 64 51 rfl rfl rfl g1 (l32 16 rfl) rfl (fun h51 => ?_) (fun h51 => ?_)
  · skip
    refine P_some ?_
    exact H2 s.2 (jk [(1, s.1)]) gm
  · skip
    refine P_gf 55 (.ref 321) rfl rfl rfl rfl rfl rfl ?_
    refine P_ld 56 (.int (i32 s.1)) rfl (fun _ => rfl) ?_
    refine P_ld 57 (.long (i64 0)) rfl (fun _ => rfl) ?_
    refine P_last2 (a' := [(172, upI (s.2.2 172) s.1 0)]) 58 172 (s.2.2 172) rfl rfl rfl g1 rfl rfl ?_
    refine P_inc 61 [(1, .int (i32 (cut (s.1 + 1)))), (0, .ref 189)] rfl rfl (by decide) rfl rfl ?_
    refine P_goto 45 rfl (fun _ => rfl) ?_
    refine P_some ?_
    refine P_lv (b := [(0, .ref 189), (1, .int (i32 (cut (s.1 + 1))))]) rfl rfl ⟨rfl, rfl, trivial⟩ ?_
    exact H1 (cut (s.1 + 1), (mO s.2 [] [(172, upI (s.2.2 172) s.1 0)])) (jk []) ⟨cut_r, (Cn_mO gm trivial ⟨(rE_ul (Cn_a gm 172) rfl (l64 0 rfl)), trivial⟩)⟩
def rfl_readPacket_43 (m : mR) : Option (Int × mR) :=
  bnd (whl rfb_readPacket_45 (0, m)) (fun e52 : mR =>
    rfl_readPacket_64 e52)
theorem dg_readPacket_43 (w : wX) (c : Nat → Option am_C) (N D : Nat) (bb : Nat) (m : mR) (hm : Cn m) (j : Nat → Int) : PP bb w D pm_325 (43, [(0, .ref 189), (1, .int (i32 (j 1)))], [], (mhp m c, N), 0, 0) (QS (FR1 c N) (rfl_readPacket_43 m)) := by
  unfold rfl_readPacket_43
  show PP bb w D pm_325 (43, [(0, .ref 189), (1, .int (i32 (j 1)))], [], (mhp (mO m [] []) c, N), 0, 0) _
  refine P_ld 44 (.int (i32 0)) rfl (fun _ => rfl) ?_
  refine P_sto 45 [(1, .int (i32 0)), (0, .ref 189)] rfl (fun _ => rfl) ?_
  refine P_lv (b := [(0, .ref 189), (1, .int (i32 0))]) rfl rfl ⟨rfl, rfl, trivial⟩ ?_
  refine P_bnd ?_
  refine P_whl (fun bb Q2 H1 H2 s9 j9 hs9 => dh_readPacket_45 w c N D bb Q2 H1 H2 s9 j9 hs9) bb (fun e52 j q53 => ?_) (0, m) (jk []) ⟨(l32 0 rfl), hm⟩
  have q54 := q53
  show PP bb w D pm_325 (64, [(0, .ref 189), (1, .int (i32 (j 1)))], [], (mhp (mO e52 [] []) c, N), 0, 0) (QS _ (rfl_readPacket_64 e52))
  exact dg_readPacket_64 w c N D bb e52 q54 (jk [(1, j 1)])
def rfb_readPacket_24 (s : Int × mR) : Option (Sum (Int × mR) (mR)) :=
  if (12 : Int) ≤ s.1 then
    some (.inr s.2)
  else
    some (.inl (cut (s.1 + 1), (mO s.2 [] [(175, upI (s.2.2 175) s.1 (nar1 0))])))
theorem dh_readPacket_24 (w : wX) (c : Nat → Option am_C) (N D : Nat) (bb : Nat) (Q2 : Sum (Int × mR) (mR) → ag_Re af_T → Prop) (H1 : ∀ s j, cs_readPacket_24 s → PP bb w D pm_325 (hd_readPacket_24 c N s j) (Q2 (.inl s))) (H2 : ∀ x j, cx_readPacket_24 x → PP bb w D pm_325 (ex_readPacket_24 c N x j) (Q2 (.inr x))) (s : Int × mR) (j : Nat → Int) (hs : cs_readPacket_24 s) : PP (bb + 1) w D pm_325 (hd_readPacket_24 c N s j) (QS Q2 (rfb_readPacket_24 s)) := by
  obtain ⟨g1, gm⟩ := hs
  unfold rfb_readPacket_24
  show PP (bb + 1) w D pm_325 (24, [(0, .ref 189), (1, .int (i32 s.1))], [], (mhp (mO s.2 [] []) c, N), 0, 0) _
  refine P1_ld 25 (.int (i32 s.1)) rfl (fun _ => rfl) ?_
  refine P_ld 27 (.int (i32 12)) rfl (fun _ => rfl) ?_
  refine P_icF 43 30 rfl rfl rfl g1 (l32 12 rfl) rfl (fun h56 => ?_) (fun h56 => ?_)
  · skip
    refine P_some ?_
    exact H2 s.2 (jk [(1, s.1)]) gm
  · skip
    refine P_gf 34 (.ref 324) rfl rfl rfl rfl rfl rfl ?_
    refine P_ld 35 (.int (i32 s.1)) rfl (fun _ => rfl) ?_
    refine P_ld 36 (.int (i32 0)) rfl (fun _ => rfl) ?_
    refine P_bast2 (a' := [(175, upI (s.2.2 175) s.1 (nar1 0))]) 37 175 (s.2.2 175) rfl rfl rfl g1 rfl rfl ?_
    refine P_inc 40 [(1, .int (i32 (cut (s.1 + 1)))), (0, .ref 189)] rfl rfl (by decide) rfl rfl ?_
    refine P_goto 24 rfl (fun _ => rfl) ?_
    refine P_some ?_
    refine P_lv (b := [(0, .ref 189), (1, .int (i32 (cut (s.1 + 1))))]) rfl rfl ⟨rfl, rfl, trivial⟩ ?_
    exact H1 (cut (s.1 + 1), (mO s.2 [] [(175, upI (s.2.2 175) s.1 (nar1 0))])) (jk []) ⟨cut_r, (Cn_mO gm trivial ⟨(rE_ui (Cn_a gm 175) rfl t32_r), trivial⟩)⟩
def rfl_readPacket_22 (m : mR) : Option (Int × mR) :=
  bnd (whl rfb_readPacket_24 (0, m)) (fun e57 : mR =>
    rfl_readPacket_43 e57)
theorem dg_readPacket_22 (w : wX) (c : Nat → Option am_C) (N D : Nat) (bb : Nat) (m : mR) (hm : Cn m) (j : Nat → Int) : PP bb w D pm_325 (22, [(0, .ref 189), (1, .int (i32 (j 1)))], [], (mhp m c, N), 0, 0) (QS (FR1 c N) (rfl_readPacket_22 m)) := by
  unfold rfl_readPacket_22
  show PP bb w D pm_325 (22, [(0, .ref 189), (1, .int (i32 (j 1)))], [], (mhp (mO m [] []) c, N), 0, 0) _
  refine P_ld 23 (.int (i32 0)) rfl (fun _ => rfl) ?_
  refine P_sto 24 [(1, .int (i32 0)), (0, .ref 189)] rfl (fun _ => rfl) ?_
  refine P_lv (b := [(0, .ref 189), (1, .int (i32 0))]) rfl rfl ⟨rfl, rfl, trivial⟩ ?_
  refine P_bnd ?_
  refine P_whl (fun bb Q2 H1 H2 s9 j9 hs9 => dh_readPacket_24 w c N D bb Q2 H1 H2 s9 j9 hs9) bb (fun e57 j q58 => ?_) (0, m) (jk []) ⟨(l32 0 rfl), hm⟩
  have q59 := q58
  show PP bb w D pm_325 (43, [(0, .ref 189), (1, .int (i32 (j 1)))], [], (mhp (mO e57 [] []) c, N), 0, 0) (QS _ (rfl_readPacket_43 e57))
  exact dg_readPacket_43 w c N D bb e57 q59 (jk [(1, j 1)])
def rfb_readPacket_2 (s : Int × mR) : Option (Sum (Int × mR) (mR)) :=
  if (192 : Int) ≤ s.1 then
    some (.inr s.2)
  else
    some (.inl (cut (s.1 + 1), (mO s.2 [] [(171, upI (s.2.2 171) s.1 0)])))
theorem dh_readPacket_2 (w : wX) (c : Nat → Option am_C) (N D : Nat) (bb : Nat) (Q2 : Sum (Int × mR) (mR) → ag_Re af_T → Prop) (H1 : ∀ s j, cs_readPacket_2 s → PP bb w D pm_325 (hd_readPacket_2 c N s j) (Q2 (.inl s))) (H2 : ∀ x j, cx_readPacket_2 x → PP bb w D pm_325 (ex_readPacket_2 c N x j) (Q2 (.inr x))) (s : Int × mR) (j : Nat → Int) (hs : cs_readPacket_2 s) : PP (bb + 1) w D pm_325 (hd_readPacket_2 c N s j) (QS Q2 (rfb_readPacket_2 s)) := by
  obtain ⟨g1, gm⟩ := hs
  unfold rfb_readPacket_2
  show PP (bb + 1) w D pm_325 (2, [(0, .ref 189), (1, .int (i32 s.1))], [], (mhp (mO s.2 [] []) c, N), 0, 0) _
  refine P1_ld 3 (.int (i32 s.1)) rfl (fun _ => rfl) ?_
  refine P_ld 6 (.int (i32 192)) rfl (fun _ => rfl) ?_
  refine P_icF 22 9 rfl rfl rfl g1 (l32 192 rfl) rfl (fun h61 => ?_) (fun h61 => ?_)
  · skip
    refine P_some ?_
    exact H2 s.2 (jk [(1, s.1)]) gm
  · skip
    refine P_gf 13 (.ref 320) rfl rfl rfl rfl rfl rfl ?_
    refine P_ld 14 (.int (i32 s.1)) rfl (fun _ => rfl) ?_
    refine P_ld 15 (.long (i64 0)) rfl (fun _ => rfl) ?_
    refine P_last2 (a' := [(171, upI (s.2.2 171) s.1 0)]) 16 171 (s.2.2 171) rfl rfl rfl g1 rfl rfl ?_
    refine P_inc 19 [(1, .int (i32 (cut (s.1 + 1)))), (0, .ref 189)] rfl rfl (by decide) rfl rfl ?_
    refine P_goto 2 rfl (fun _ => rfl) ?_
    refine P_some ?_
    refine P_lv (b := [(0, .ref 189), (1, .int (i32 (cut (s.1 + 1))))]) rfl rfl ⟨rfl, rfl, trivial⟩ ?_
    exact H1 (cut (s.1 + 1), (mO s.2 [] [(171, upI (s.2.2 171) s.1 0)])) (jk []) ⟨cut_r, (Cn_mO gm trivial ⟨(rE_ul (Cn_a gm 171) rfl (l64 0 rfl)), trivial⟩)⟩
def rf_readPacket (m : mR) : Option (Int × mR) :=
  bnd (whl rfb_readPacket_2 (0, m)) (fun e62 : mR =>
    rfl_readPacket_22 e62)
theorem D_readPacket (w : wX) (m : mR) (c : Nat → Option am_C) (N D : Nat) (hm : Cn m) : PC w D 325 [.ref 189] (mhp m c, N) (QS (FR1 c N) (rf_readPacket m)) := by
  refine Pc_of (fun D bb => ?_) D
  unfold rf_readPacket
  show PP bb w D pm_325 (0, [(0, .ref 189)], [], (mhp (mO m [] []) c, N), 0, 0) _
  refine P_ld 1 (.int (i32 0)) rfl (fun _ => rfl) ?_
  refine P_sto 2 [(1, .int (i32 0)), (0, .ref 189)] rfl (fun _ => rfl) ?_
  refine P_lv (b := [(0, .ref 189), (1, .int (i32 0))]) rfl rfl ⟨rfl, rfl, trivial⟩ ?_
  refine P_bnd ?_
  refine P_whl (fun bb Q2 H1 H2 s9 j9 hs9 => dh_readPacket_2 w c N D bb Q2 H1 H2 s9 j9 hs9) bb (fun e62 j q63 => ?_) (0, m) (jk []) ⟨(l32 0 rfl), hm⟩
  have q64 := q63
  show PP bb w D pm_325 (22, [(0, .ref 189), (1, .int (i32 (j 1)))], [], (mhp (mO e62 [] []) c, N), 0, 0) (QS _ (rfl_readPacket_22 e62))
  exact dg_readPacket_22 w c N D bb e62 q64 (jk [(1, j 1)])
def rf_put (v1 : Int) (v2 : Int) (m : mR) : Option (Int × mR) :=
  if (16 : Int) ≤ v1 then
    if (m.2 175) ((cut (v1 - 16)).tdiv 16) = 0 then
      some (0, m)
    else
      some (0, (mO m [] [(171, upI (m.2 171) (cut (v1 - 16)) v2)]))
  else
    some (0, (mO m [] [(172, upI (m.2 172) v1 v2)]))
theorem D_put (w : wX) (m : mR) (c : Nat → Option am_C) (N D : Nat) (hm : Cn m) (v1 : Int) (v2 : Int) (q1 : R32 v1) (q2 : R64 v2) : PC w D 333 [.ref 189, .int (i32 v1), .long (i64 v2)] (mhp m c, N) (QS (FR0 c N) (rf_put v1 v2 m)) := by
  refine Pc_of (fun D bb => ?_) D
  unfold rf_put
  show PP bb w D pm_333 (0, [(0, .ref 189), (1, .int (i32 v1)), (2, .long (i64 v2))], [], (mhp (mO m [] []) c, N), 0, 0) _
  refine P_ld 1 (.int (i32 v1)) rfl (fun _ => rfl) ?_
  refine P_ld 3 (.int (i32 16)) rfl (fun _ => rfl) ?_
  refine P_icF 16 6 rfl rfl rfl q1 (l32 16 rfl) rfl (fun h1 => ?_) (fun h1 => ?_)
  · skip
    refine P_gf 20 (.ref 324) rfl rfl rfl rfl rfl rfl ?_
    refine P_ld 21 (.int (i32 v1)) rfl (fun _ => rfl) ?_
    refine P_ld 23 (.int (i32 16)) rfl (fun _ => rfl) ?_
    refine P_op 24 (cut (v1 - 16)) _ rfl (fun _ => rfl) o_sub ?_
    refine P_ld 26 (.int (i32 16)) rfl (fun _ => rfl) ?_
    refine P_div 27 rfl rfl cut_r (by decide) (by decide) ?_
    refine P_bald2 28 175 (m.2 175) rfl rfl rfl (tdiv_r cut_r (by decide)) rfl ?_
    refine P_ifF 41 31 rfl rfl rfl (rE_i (Cn_a hm 175) rfl _) rfl (fun h2 => ?_) (fun h2 => ?_)
    · skip
      exact P_re0 rfl rfl hm
    · skip
      refine P_gf 35 (.ref 320) rfl rfl rfl rfl rfl rfl ?_
      refine P_ld 36 (.int (i32 v1)) rfl (fun _ => rfl) ?_
      refine P_ld 38 (.int (i32 16)) rfl (fun _ => rfl) ?_
      refine P_op 39 (cut (v1 - 16)) _ rfl (fun _ => rfl) o_sub ?_
      refine P_ld 40 (.long (i64 v2)) rfl (fun _ => rfl) ?_
      refine P_last2 (a' := [(171, upI (m.2 171) (cut (v1 - 16)) v2)]) 41 171 (m.2 171) rfl rfl rfl cut_r rfl rfl ?_
      exact P_re0 rfl rfl (Cn_mO hm trivial ⟨(rE_ul (Cn_a hm 171) rfl q2), trivial⟩)
  · skip
    refine P_gf 10 (.ref 321) rfl rfl rfl rfl rfl rfl ?_
    refine P_ld 11 (.int (i32 v1)) rfl (fun _ => rfl) ?_
    refine P_ld 12 (.long (i64 v2)) rfl (fun _ => rfl) ?_
    refine P_last2 (a' := [(172, upI (m.2 172) v1 v2)]) 13 172 (m.2 172) rfl rfl rfl q1 rfl rfl ?_
    refine P_goto 41 rfl (fun _ => rfl) ?_
    exact P_re0 rfl rfl (Cn_mO hm trivial ⟨(rE_ul (Cn_a hm 172) rfl q2), trivial⟩)
def rfl_remainder_30 (u0 : Int) : Option Int :=
  some u0
theorem dg_remainder_30 (w : wX) (t : af_T) (D : Nat) (bb : Nat) (u0 : Int) (r0 : R64 u0) (j : Nat → Int) : PP bb w D pm_335 (30, [(0, .long (i64 (j 0))), (2, .int (i32 (j 2)))], [.long (i64 u0)], t, 0, 0) (QS (FP2 t) (rfl_remainder_30 u0)) := by
  unfold rfl_remainder_30
  exact P_rp2 rfl rfl r0
def rf_remainder (v0 : Int) (v2 : Int) : Option Int :=
  if cmp64 v0 0 < 0 then
    rfl_remainder_30 (rem64 (cutl ((cutl ((rem64 (ushr64 v0 1) v2) * 2)) + (and64 v0 1))) v2)
  else
    rfl_remainder_30 (rem64 v0 v2)
theorem D_remainder (w : wX) (t : af_T) (D : Nat) (v0 : Int) (v2 : Int) (q0 : R64 v0) (q2 : R32 v2) : PC w D 335 [.long (i64 v0), .int (i32 v2)] t (QS (FP2 t) (rf_remainder v0 v2)) := by
  refine Pc_of (fun D bb => ?_) D
  unfold rf_remainder
  show PP bb w D pm_335 (0, [(0, .long (i64 v0)), (2, .int (i32 v2))], [], t, 0, 0) _
  refine P_ld 1 (.long (i64 v0)) rfl (fun _ => rfl) ?_
  refine P_ld 2 (.long (i64 0)) rfl (fun _ => rfl) ?_
  refine P_op 3 (cmp64 v0 0) _ rfl (fun _ => rfl) (o_cmp q0 (l64 0 rfl)) ?_
  refine P_ifF 13 6 rfl rfl rfl cmp64_r rfl (fun h1 => ?_) (fun h1 => ?_)
  · skip
    refine P_ld 14 (.long (i64 v0)) rfl (fun _ => rfl) ?_
    refine P_ld 15 (.int (i32 1)) rfl (fun _ => rfl) ?_
    refine P_opl 16 (ushr64 v0 1) _ rfl (fun _ => rfl) (Int64.ofInt_toInt _).symm ?_
    refine P_ld 17 (.int (i32 v2)) rfl (fun _ => rfl) ?_
    refine P_opl 18 v2 _ rfl (fun _ => rfl) (o_i2l q2) ?_
    refine P_lrem 19 rfl rfl ?_
    refine P_ld 22 (.long (i64 2)) rfl (fun _ => rfl) ?_
    refine P_opl 23 (cutl ((rem64 (ushr64 v0 1) v2) * 2)) _ rfl (fun _ => rfl) p_mul ?_
    refine P_ld 24 (.long (i64 v0)) rfl (fun _ => rfl) ?_
    refine P_ld 25 (.long (i64 1)) rfl (fun _ => rfl) ?_
    refine P_opl 26 (and64 v0 1) _ rfl (fun _ => rfl) (Int64.ofInt_toInt _).symm ?_
    refine P_opl 27 (cutl ((cutl ((rem64 (ushr64 v0 1) v2) * 2)) + (and64 v0 1))) _ rfl (fun _ => rfl) p_add ?_
    refine P_ld 28 (.int (i32 v2)) rfl (fun _ => rfl) ?_
    refine P_opl 29 v2 _ rfl (fun _ => rfl) (o_i2l q2) ?_
    refine P_lrem 30 rfl rfl ?_
    exact dg_remainder_30 w t D bb (rem64 (cutl ((cutl ((rem64 (ushr64 v0 1) v2) * 2)) + (and64 v0 1))) v2) t64_r (jk [(0, v0), (2, v2)])
  · skip
    refine P_ld 7 (.long (i64 v0)) rfl (fun _ => rfl) ?_
    refine P_ld 8 (.int (i32 v2)) rfl (fun _ => rfl) ?_
    refine P_opl 9 v2 _ rfl (fun _ => rfl) (o_i2l q2) ?_
    refine P_lrem 10 rfl rfl ?_
    refine P_goto 30 rfl (fun _ => rfl) ?_
    exact dg_remainder_30 w t D bb (rem64 v0 v2) t64_r (jk [(0, v0), (2, v2)])
def rfl_wordAt_25 (v1 : Int) (u0 : Int) (u1 : Int) (m : mR) : Option (Int × mR) :=
  bnd (rf_remainder u1 ((m.2 93) ((m.2 103) v1))) fun y1 =>
  some (cut (u0 + (cut y1)), m)
theorem dg_wordAt_25 (w : wX) (c : Nat → Option am_C) (N D : Nat) (bb : Nat) (v1 : Int) (u0 : Int) (u1 : Int) (q1 : R32 v1) (r0 : R32 u0) (r1 : R64 u1) (m : mR) (hm : Cn m) (j : Nat → Int) : PP bb w D pm_334 (25, [(0, .ref 189), (1, .int (i32 v1))], [.long (i64 u1), .int (i32 u0)], (mhp m c, N), 0, 0) (QS (FR1 c N) (rfl_wordAt_25 v1 u0 u1 m)) := by
  unfold rfl_wordAt_25
  show PP bb w D pm_334 (25, [(0, .ref 189), (1, .int (i32 v1))], [.long (i64 u1), .int (i32 u0)], (mhp (mO m [] []) c, N), 0, 0) _
  refine P_gf 29 (.ref 255) rfl rfl rfl rfl rfl rfl ?_
  refine P_gf 33 (.ref 263) rfl rfl rfl rfl rfl rfl ?_
  refine P_ld 34 (.int (i32 v1)) rfl (fun _ => rfl) ?_
  refine P_iald2 35 103 (m.2 103) rfl rfl rfl q1 rfl ?_
  refine P_iald2 36 93 (m.2 93) rfl rfl rfl (rE_i (Cn_a hm 103) rfl _) rfl ?_
  refine P_cp2 39 335 [.long (i64 u1), .int (i32 ((m.2 93) ((m.2 103) v1)))] [.int (i32 u0)] rfl (fun _ => rfl) rfl (D_remainder w _ D u1 ((m.2 93) ((m.2 103) v1)) r1 (rE_i (Cn_a hm 93) rfl _)) (fun y1 h2 => ?_)
  refine P_op 40 (cut y1) _ rfl (fun _ => rfl) o_l2i ?_
  refine P_op 41 (cut (u0 + (cut y1))) _ rfl (fun _ => rfl) o_add ?_
  exact P_re1 rfl cut_r hm
def rf_wordAt (v1 : Int) (m : mR) : Option (Int × mR) :=
  bnd (rf_worth ((m.2 105) v1) ((m.2 106) v1) m) fun y3 =>
  rfl_wordAt_25 v1 (cut (64 * ((m.2 103) v1))) y3.1 y3.2
theorem D_wordAt (w : wX) (m : mR) (c : Nat → Option am_C) (N D : Nat) (hm : Cn m) (v1 : Int) (q1 : R32 v1) : PC w D 334 [.ref 189, .int (i32 v1)] (mhp m c, N) (QS (FR1 c N) (rf_wordAt v1 m)) := by
  refine Pc_of (fun D bb => ?_) D
  unfold rf_wordAt
  show PP bb w D pm_334 (0, [(0, .ref 189), (1, .int (i32 v1))], [], (mhp (mO m [] []) c, N), 0, 0) _
  refine P_ld 2 (.int (i32 64)) rfl (fun _ => rfl) ?_
  refine P_gf 6 (.ref 263) rfl rfl rfl rfl rfl rfl ?_
  refine P_ld 7 (.int (i32 v1)) rfl (fun _ => rfl) ?_
  refine P_iald2 8 103 (m.2 103) rfl rfl rfl q1 rfl ?_
  refine P_op 9 (cut (64 * ((m.2 103) v1))) _ rfl (fun _ => rfl) o_mul ?_
  refine P_ld 10 (.ref 189) rfl (fun _ => rfl) ?_
  refine P_gf 14 (.ref 265) rfl rfl rfl rfl rfl rfl ?_
  refine P_ld 15 (.int (i32 v1)) rfl (fun _ => rfl) ?_
  refine P_iald2 16 105 (m.2 105) rfl rfl rfl q1 rfl ?_
  refine P_gf 20 (.ref 266) rfl rfl rfl rfl rfl rfl ?_
  refine P_ld 21 (.int (i32 v1)) rfl (fun _ => rfl) ?_
  refine P_iald2 22 106 (m.2 106) rfl rfl rfl q1 rfl ?_
  refine P_ca2 25 327 [.ref 189, .int (i32 ((m.2 105) v1)), .int (i32 ((m.2 106) v1))] [.int (i32 (cut (64 * ((m.2 103) v1))))] rfl (fun _ => rfl) rfl (D_worth w m c N D hm ((m.2 105) v1) ((m.2 106) v1) (rE_i (Cn_a hm 105) rfl _) (rE_i (Cn_a hm 106) rfl _)) (fun y3 h4 n5 => ?_)
  exact dg_wordAt_25 w c N D bb v1 (cut (64 * ((m.2 103) v1))) y3.1 q1 cut_r h4 y3.2 n5 (jk [])
def cs_doStatement_171 (s : Int × mR) : Prop := R32 s.1 ∧ Cn s.2
def cx_doStatement_171 : (mR) → Prop := (fun (e : mR) => Cn e)
def hd_doStatement_171 (c : Nat → Option am_C) (N : Nat) (v3 : Int) (v4 : Int) (s : Int × mR) (j : Nat → Int) : ag_St af_T := (171, [(0, .ref 189), (1, .int (i32 (j 1))), (3, .int (i32 v3)), (4, .int (i32 v4)), (5, .int (i32 s.1))], [], (mhp s.2 c, N), 0, 0)
def ex_doStatement_171 (c : Nat → Option am_C) (N : Nat) (v3 : Int) (v4 : Int) : (mR) → (Nat → Int) → ag_St af_T := (fun (e : mR) (j : Nat → Int) => ((211, [(0, .ref 189), (1, .int (i32 (j 1))), (3, .int (i32 v3)), (4, .int (i32 v4)), (5, .int (i32 (j 5)))], [], (mhp e c, N), 0, 0) : ag_St af_T))
def rfl_doStatement_211 (v3 : Int) (v4 : Int) (m : mR) : Option (Int × mR) :=
  some (0, (mO m [] [(175, upI (m.2 175) v3 (nar1 v4))]))
theorem dg_doStatement_211 (w : wX) (c : Nat → Option am_C) (N D : Nat) (bb : Nat) (v3 : Int) (v4 : Int) (q3 : R32 v3) (q4 : R32 v4) (m : mR) (hm : Cn m) (j : Nat → Int) : PP bb w D pm_332 (211, [(0, .ref 189), (1, .int (i32 (j 1))), (3, .int (i32 v3)), (4, .int (i32 v4)), (5, .int (i32 (j 5)))], [], (mhp m c, N), 0, 0) (QS (FR0 c N) (rfl_doStatement_211 v3 v4 m)) := by
  unfold rfl_doStatement_211
  show PP bb w D pm_332 (211, [(0, .ref 189), (1, .int (i32 (j 1))), (3, .int (i32 v3)), (4, .int (i32 v4)), (5, .int (i32 (j 5)))], [], (mhp (mO m [] []) c, N), 0, 0) _
  refine P_gf 215 (.ref 324) rfl rfl rfl rfl rfl rfl ?_
  refine P_ld 216 (.int (i32 v3)) rfl (fun _ => rfl) ?_
  refine P_ld 218 (.int (i32 v4)) rfl (fun _ => rfl) ?_
  refine P_bast2 (a' := [(175, upI (m.2 175) v3 (nar1 v4))]) 219 175 (m.2 175) rfl rfl rfl q3 rfl rfl ?_
  exact P_re0 rfl rfl (Cn_mO hm trivial ⟨(rE_ui (Cn_a hm 175) rfl t32_r), trivial⟩)
def rfl_doStatement_197 (v3 : Int) (v4 : Int) (v5 : Int) (m : mR) : Option (Sum (Int × mR) (mR)) :=
  some (.inl (cut (v5 + 1), (mO m [] [(171, upI (m.2 171) v5 0)])))
theorem dg_doStatement_197 (w : wX) (c : Nat → Option am_C) (N D : Nat) (bb : Nat) (v3 : Int) (v4 : Int) (v5 : Int) (q3 : R32 v3) (q4 : R32 v4) (q5 : R32 v5) (m : mR) (hm : Cn m) (j : Nat → Int) (Q2 : Sum (Int × mR) (mR) → ag_Re af_T → Prop) (H1 : ∀ s j, cs_doStatement_171 s → PP bb w D pm_332 (hd_doStatement_171 c N v3 v4 s j) (Q2 (.inl s))) (H2 : ∀ x j, cx_doStatement_171 x → PP bb w D pm_332 (ex_doStatement_171 c N v3 v4 x j) (Q2 (.inr x))) : PP bb w D pm_332 (197, [(0, .ref 189), (1, .int (i32 (j 1))), (3, .int (i32 v3)), (4, .int (i32 v4)), (5, .int (i32 v5))], [], (mhp m c, N), 0, 0) (QS Q2 (rfl_doStatement_197 v3 v4 v5 m)) := by
  unfold rfl_doStatement_197
  show PP bb w D pm_332 (197, [(0, .ref 189), (1, .int (i32 (j 1))), (3, .int (i32 v3)), (4, .int (i32 v4)), (5, .int (i32 v5))], [], (mhp (mO m [] []) c, N), 0, 0) _
  refine P_gf 201 (.ref 320) rfl rfl rfl rfl rfl rfl ?_
  refine P_ld 203 (.int (i32 v5)) rfl (fun _ => rfl) ?_
  refine P_ld 204 (.long (i64 0)) rfl (fun _ => rfl) ?_
  refine P_last2 (a' := [(171, upI (m.2 171) v5 0)]) 205 171 (m.2 171) rfl rfl rfl q5 rfl rfl ?_
  refine P_inc 208 [(5, .int (i32 (cut (v5 + 1)))), (0, .ref 189), (1, .int (i32 (j 1))), (3, .int (i32 v3)), (4, .int (i32 v4))] rfl rfl (by decide) rfl rfl ?_
  refine P_goto 171 rfl (fun _ => rfl) ?_
  refine P_some ?_
  refine P_lv (b := [(0, .ref 189), (1, .int (i32 (j 1))), (3, .int (i32 v3)), (4, .int (i32 v4)), (5, .int (i32 (cut (v5 + 1))))]) rfl rfl ⟨rfl, rfl, rfl, rfl, rfl, trivial⟩ ?_
  exact H1 (cut (v5 + 1), (mO m [] [(171, upI (m.2 171) v5 0)])) (jk [(1, j 1)]) ⟨cut_r, (Cn_mO hm trivial ⟨(rE_ul (Cn_a hm 171) rfl (l64 0 rfl)), trivial⟩)⟩
def rfb_doStatement_171 (v3 : Int) (v4 : Int) (s : Int × mR) : Option (Sum (Int × mR) (mR)) :=
  if cut ((cut (16 * v3)) + 16) ≤ s.1 then
    some (.inr s.2)
  else
    if v4 = 0 then
      rfl_doStatement_197 v3 v4 s.1 s.2
    else
      if (s.2.2 175) v3 = 0 then
        rfl_doStatement_197 v3 v4 s.1 s.2
      else
        some (.inr s.2)
theorem dh_doStatement_171 (w : wX) (c : Nat → Option am_C) (N D : Nat) (v3 : Int) (v4 : Int) (q3 : R32 v3) (q4 : R32 v4) (bb : Nat) (Q2 : Sum (Int × mR) (mR) → ag_Re af_T → Prop) (H1 : ∀ s j, cs_doStatement_171 s → PP bb w D pm_332 (hd_doStatement_171 c N v3 v4 s j) (Q2 (.inl s))) (H2 : ∀ x j, cx_doStatement_171 x → PP bb w D pm_332 (ex_doStatement_171 c N v3 v4 x j) (Q2 (.inr x))) (s : Int × mR) (j : Nat → Int) (hs : cs_doStatement_171 s) : PP (bb + 1) w D pm_332 (hd_doStatement_171 c N v3 v4 s j) (QS Q2 (rfb_doStatement_171 v3 v4 s)) := by
  obtain ⟨g5, gm⟩ := hs
  unfold rfb_doStatement_171
  show PP (bb + 1) w D pm_332 (171, [(0, .ref 189), (1, .int (i32 (j 1))), (3, .int (i32 v3)), (4, .int (i32 v4)), (5, .int (i32 s.1))], [], (mhp (mO s.2 [] []) c, N), 0, 0) _
  refine P1_ld 173 (.int (i32 s.1)) rfl (fun _ => rfl) ?_
  refine P_ld 175 (.int (i32 16)) rfl (fun _ => rfl) ?_
  refine P_ld 176 (.int (i32 v3)) rfl (fun _ => rfl) ?_
  refine P_op 177 (cut (16 * v3)) _ rfl (fun _ => rfl) o_mul ?_
  refine P_ld 179 (.int (i32 16)) rfl (fun _ => rfl) ?_
  refine P_op 180 (cut ((cut (16 * v3)) + 16)) _ rfl (fun _ => rfl) o_add ?_
  refine P_icF 211 183 rfl rfl rfl g5 cut_r rfl (fun h3 => ?_) (fun h3 => ?_)
  · skip
    refine P_some ?_
    exact H2 s.2 (jk [(1, j 1), (5, s.1)]) gm
  · skip
    refine P_ld 185 (.int (i32 v4)) rfl (fun _ => rfl) ?_
    refine P_ifF 197 188 rfl rfl rfl q4 rfl (fun h4 => ?_) (fun h4 => ?_)
    · skip
      exact dg_doStatement_197 w c N D bb v3 v4 s.1 q3 q4 g5 s.2 gm (jk [(1, j 1)]) Q2 H1 H2
    · skip
      refine P_gf 192 (.ref 324) rfl rfl rfl rfl rfl rfl ?_
      refine P_ld 193 (.int (i32 v3)) rfl (fun _ => rfl) ?_
      refine P_bald2 194 175 (s.2.2 175) rfl rfl rfl q3 rfl ?_
      refine P_ifE 211 197 rfl rfl rfl (rE_i (Cn_a gm 175) rfl _) rfl (fun h5 => ?_) (fun h5 => ?_)
      · skip
        exact dg_doStatement_197 w c N D bb v3 v4 s.1 q3 q4 g5 s.2 gm (jk [(1, j 1)]) Q2 H1 H2
      · skip
        refine P_some ?_
        exact H2 s.2 (jk [(1, j 1), (5, s.1)]) gm
def rfl_doStatement_163 (v3 : Int) (u0 : Int) (m : mR) : Option (Int × mR) :=
  bnd (whl (rfb_doStatement_171 v3 u0) (cut (16 * v3), m)) (fun e6 : mR =>
    rfl_doStatement_211 v3 u0 e6)
theorem dg_doStatement_163 (w : wX) (c : Nat → Option am_C) (N D : Nat) (bb : Nat) (v3 : Int) (u0 : Int) (q3 : R32 v3) (r0 : R32 u0) (m : mR) (hm : Cn m) (j : Nat → Int) : PP bb w D pm_332 (163, [(0, .ref 189), (1, .int (i32 (j 1))), (3, .int (i32 v3))], [.int (i32 u0)], (mhp m c, N), 0, 0) (QS (FR0 c N) (rfl_doStatement_163 v3 u0 m)) := by
  unfold rfl_doStatement_163
  show PP bb w D pm_332 (163, [(0, .ref 189), (1, .int (i32 (j 1))), (3, .int (i32 v3))], [.int (i32 u0)], (mhp (mO m [] []) c, N), 0, 0) _
  refine P_sto 165 [(4, .int (i32 u0)), (0, .ref 189), (1, .int (i32 (j 1))), (3, .int (i32 v3))] rfl (fun _ => rfl) ?_
  refine P_ld 167 (.int (i32 16)) rfl (fun _ => rfl) ?_
  refine P_ld 168 (.int (i32 v3)) rfl (fun _ => rfl) ?_
  refine P_op 169 (cut (16 * v3)) _ rfl (fun _ => rfl) o_mul ?_
  refine P_sto 171 [(5, .int (i32 (cut (16 * v3)))), (4, .int (i32 u0)), (0, .ref 189), (1, .int (i32 (j 1))), (3, .int (i32 v3))] rfl (fun _ => rfl) ?_
  refine P_lv (b := [(0, .ref 189), (1, .int (i32 (j 1))), (3, .int (i32 v3)), (4, .int (i32 u0)), (5, .int (i32 (cut (16 * v3))))]) rfl rfl ⟨rfl, rfl, rfl, rfl, rfl, trivial⟩ ?_
  refine P_bnd ?_
  refine P_whl (fun bb Q2 H1 H2 s9 j9 hs9 => dh_doStatement_171 w c N D v3 u0 q3 r0 bb Q2 H1 H2 s9 j9 hs9) bb (fun e6 j q7 => ?_) (cut (16 * v3), m) (jk [(1, j 1)]) ⟨cut_r, hm⟩
  have q8 := q7
  show PP bb w D pm_332 (211, [(0, .ref 189), (1, .int (i32 (j 1))), (3, .int (i32 v3)), (4, .int (i32 u0)), (5, .int (i32 (j 5)))], [], (mhp (mO e6 [] []) c, N), 0, 0) (QS _ (rfl_doStatement_211 v3 u0 e6))
  exact dg_doStatement_211 w c N D bb v3 u0 q3 r0 e6 q8 (jk [(1, j 1), (5, j 5)])
def rfl_doStatement_127 (u1 : Int) (u2 : Int) (m : mR) : Option (Int × mR) :=
  some (0, (mO m [] [(138, upI (m.2 138) u1 u2)]))
theorem dg_doStatement_127 (w : wX) (c : Nat → Option am_C) (N D : Nat) (bb : Nat) (u1 : Int) (u2 : Int) (r1 : R32 u1) (r2 : R64 u2) (m : mR) (hm : Cn m) (j : Nat → Int) : PP bb w D pm_332 (127, [(0, .ref 189), (1, .int (i32 (j 1))), (2, .int (i32 (j 2)))], [.long (i64 u2), .int (i32 u1), .ref 292], (mhp m c, N), 0, 0) (QS (FR0 c N) (rfl_doStatement_127 u1 u2 m)) := by
  unfold rfl_doStatement_127
  show PP bb w D pm_332 (127, [(0, .ref 189), (1, .int (i32 (j 1))), (2, .int (i32 (j 2)))], [.long (i64 u2), .int (i32 u1), .ref 292], (mhp (mO m [] []) c, N), 0, 0) _
  refine P_last2 (a' := [(138, upI (m.2 138) u1 u2)]) 128 138 (m.2 138) rfl rfl rfl r1 rfl rfl ?_
  refine P_goto 219 rfl (fun _ => rfl) ?_
  exact P_re0 rfl rfl (Cn_mO hm trivial ⟨(rE_ul (Cn_a hm 138) rfl r2), trivial⟩)
def rfl_doStatement_105 (v1 : Int) (u0 : Int) (m : mR) : Option (Int × mR) :=
  bnd (rf_worth ((m.2 107) v1) ((m.2 108) v1) m) fun y9 =>
  rfl_doStatement_127 u0 y9.1 y9.2
theorem dg_doStatement_105 (w : wX) (c : Nat → Option am_C) (N D : Nat) (bb : Nat) (v1 : Int) (u0 : Int) (q1 : R32 v1) (r0 : R32 u0) (m : mR) (hm : Cn m) (j : Nat → Int) : PP bb w D pm_332 (105, [(0, .ref 189), (1, .int (i32 v1))], [.int (i32 u0)], (mhp m c, N), 0, 0) (QS (FR0 c N) (rfl_doStatement_105 v1 u0 m)) := by
  unfold rfl_doStatement_105
  show PP bb w D pm_332 (105, [(0, .ref 189), (1, .int (i32 v1))], [.int (i32 u0)], (mhp (mO m [] []) c, N), 0, 0) _
  refine P_sto 106 [(2, .int (i32 u0)), (0, .ref 189), (1, .int (i32 v1))] rfl (fun _ => rfl) ?_
  refine P_gf 110 (.ref 292) rfl rfl rfl rfl rfl rfl ?_
  refine P_ld 111 (.int (i32 u0)) rfl (fun _ => rfl) ?_
  refine P_ld 112 (.ref 189) rfl (fun _ => rfl) ?_
  refine P_gf 116 (.ref 267) rfl rfl rfl rfl rfl rfl ?_
  refine P_ld 117 (.int (i32 v1)) rfl (fun _ => rfl) ?_
  refine P_iald2 118 107 (m.2 107) rfl rfl rfl q1 rfl ?_
  refine P_gf 122 (.ref 268) rfl rfl rfl rfl rfl rfl ?_
  refine P_ld 123 (.int (i32 v1)) rfl (fun _ => rfl) ?_
  refine P_iald2 124 108 (m.2 108) rfl rfl rfl q1 rfl ?_
  refine P_ca2 127 327 [.ref 189, .int (i32 ((m.2 107) v1)), .int (i32 ((m.2 108) v1))] [.int (i32 u0), .ref 292] rfl (fun _ => rfl) rfl (D_worth w m c N D hm ((m.2 107) v1) ((m.2 108) v1) (rE_i (Cn_a hm 107) rfl _) (rE_i (Cn_a hm 108) rfl _)) (fun y9 h10 n11 => ?_)
  refine P_lv (b := [(0, .ref 189), (1, .int (i32 v1)), (2, .int (i32 u0))]) rfl rfl ⟨rfl, rfl, rfl, trivial⟩ ?_
  exact dg_doStatement_127 w c N D bb u0 y9.1 r0 h10 y9.2 n11 (jk [(1, v1), (2, u0)])
def rfl_doStatement_93 (u1 : Int) (u3 : Int) (m : mR) : Option (Int × mR) :=
  bnd (rf_put u1 ((m.2 138) u3) m) fun y12 =>
  some (0, y12.2)
theorem dg_doStatement_93 (w : wX) (c : Nat → Option am_C) (N D : Nat) (bb : Nat) (u1 : Int) (u3 : Int) (r1 : R32 u1) (r3 : R32 u3) (m : mR) (hm : Cn m) (j : Nat → Int) : PP bb w D pm_332 (93, [(0, .ref 189), (1, .int (i32 (j 1)))], [.int (i32 u3), .ref 292, .int (i32 u1), .ref 189], (mhp m c, N), 0, 0) (QS (FR0 c N) (rfl_doStatement_93 u1 u3 m)) := by
  unfold rfl_doStatement_93
  show PP bb w D pm_332 (93, [(0, .ref 189), (1, .int (i32 (j 1)))], [.int (i32 u3), .ref 292, .int (i32 u1), .ref 189], (mhp (mO m [] []) c, N), 0, 0) _
  refine P_lald2 94 138 (m.2 138) rfl rfl rfl r3 rfl ?_
  refine P_ca0 97 333 [.ref 189, .int (i32 u1), .long (i64 ((m.2 138) u3))] [] rfl (fun _ => rfl) rfl (D_put w m c N D hm u1 ((m.2 138) u3) r1 (rE_l (Cn_a hm 138) rfl _)) (fun y12 n14 => ?_)
  refine P_goto 219 rfl (fun _ => rfl) ?_
  exact P_re0 rfl rfl n14
def rfl_doStatement_71 (u1 : Int) (u2 : Int) (m : mR) : Option (Int × mR) :=
  bnd (rf_put u1 u2 m) fun y15 =>
  some (0, y15.2)
theorem dg_doStatement_71 (w : wX) (c : Nat → Option am_C) (N D : Nat) (bb : Nat) (u1 : Int) (u2 : Int) (r1 : R32 u1) (r2 : R64 u2) (m : mR) (hm : Cn m) (j : Nat → Int) : PP bb w D pm_332 (71, [(0, .ref 189), (1, .int (i32 (j 1)))], [.long (i64 u2), .int (i32 u1), .ref 189], (mhp m c, N), 0, 0) (QS (FR0 c N) (rfl_doStatement_71 u1 u2 m)) := by
  unfold rfl_doStatement_71
  show PP bb w D pm_332 (71, [(0, .ref 189), (1, .int (i32 (j 1)))], [.long (i64 u2), .int (i32 u1), .ref 189], (mhp (mO m [] []) c, N), 0, 0) _
  refine P_ca0 74 333 [.ref 189, .int (i32 u1), .long (i64 u2)] [] rfl (fun _ => rfl) rfl (D_put w m c N D hm u1 u2 r1 r2) (fun y15 n17 => ?_)
  refine P_goto 219 rfl (fun _ => rfl) ?_
  exact P_re0 rfl rfl n17
def rf_doStatement (v1 : Int) (m : mR) : Option (Int × mR) :=
  if (m.2 101) v1 = 1 then
    bnd (rf_worth ((m.2 107) v1) ((m.2 108) v1) m) fun y19 =>
    rfl_doStatement_71 ((m.2 102) v1) y19.1 y19.2
  else
    if (m.2 101) v1 = 326 then
      some (0, (mO m [(177, 1)] []))
    else
      if (m.2 101) v1 = 327 then
        bnd (rf_wordAt v1 m) fun y24 =>
        rfl_doStatement_93 ((m.2 102) v1) y24.1 y24.2
      else
        if (m.2 101) v1 = 328 then
          bnd (rf_wordAt v1 m) fun y28 =>
          rfl_doStatement_105 v1 y28.1 y28.2
        else
          if (m.2 101) v1 = 324 then
            rfl_doStatement_163 ((m.2 104) v1) 1 m
          else
            rfl_doStatement_163 ((m.2 104) v1) 0 m
theorem D_doStatement (w : wX) (m : mR) (c : Nat → Option am_C) (N D : Nat) (hm : Cn m) (v1 : Int) (q1 : R32 v1) : PC w D 332 [.ref 189, .int (i32 v1)] (mhp m c, N) (QS (FR0 c N) (rf_doStatement v1 m)) := by
  refine Pc_of (fun D bb => ?_) D
  unfold rf_doStatement
  show PP bb w D pm_332 (0, [(0, .ref 189), (1, .int (i32 v1))], [], (mhp (mO m [] []) c, N), 0, 0) _
  refine P_gf 4 (.ref 261) rfl rfl rfl rfl rfl rfl ?_
  refine P_ld 5 (.int (i32 v1)) rfl (fun _ => rfl) ?_
  refine P_iald2 6 101 (m.2 101) rfl rfl rfl q1 rfl ?_
  refine P_cs (fun h18 => ?_) (fun h18 => ?_)
  · skip
    refine P_cast 1 h18 ?_
    refine P_pop 48 rfl (fun _ => rfl) ?_
    refine P_ld 49 (.ref 189) rfl (fun _ => rfl) ?_
    refine P_gf 53 (.ref 262) rfl rfl rfl rfl rfl rfl ?_
    refine P_ld 54 (.int (i32 v1)) rfl (fun _ => rfl) ?_
    refine P_iald2 55 102 (m.2 102) rfl rfl rfl q1 rfl ?_
    refine P_ld 56 (.ref 189) rfl (fun _ => rfl) ?_
    refine P_gf 60 (.ref 267) rfl rfl rfl rfl rfl rfl ?_
    refine P_ld 61 (.int (i32 v1)) rfl (fun _ => rfl) ?_
    refine P_iald2 62 107 (m.2 107) rfl rfl rfl q1 rfl ?_
    refine P_gf 66 (.ref 268) rfl rfl rfl rfl rfl rfl ?_
    refine P_ld 67 (.int (i32 v1)) rfl (fun _ => rfl) ?_
    refine P_iald2 68 108 (m.2 108) rfl rfl rfl q1 rfl ?_
    refine P_ca2 71 327 [.ref 189, .int (i32 ((m.2 107) v1)), .int (i32 ((m.2 108) v1))] [.int (i32 ((m.2 102) v1)), .ref 189] rfl (fun _ => rfl) rfl (D_worth w m c N D hm ((m.2 107) v1) ((m.2 108) v1) (rE_i (Cn_a hm 107) rfl _) (rE_i (Cn_a hm 108) rfl _)) (fun y19 h20 n21 => ?_)
    exact dg_doStatement_71 w c N D bb ((m.2 102) v1) y19.1 (rE_i (Cn_a hm 102) rfl _) h20 y19.2 n21 (jk [(1, v1)])
  · skip
    refine P_cs (fun h22 => ?_) (fun h22 => ?_)
    · skip
      refine P_cast 326 h22 ?_
      refine P_pop 131 rfl (fun _ => rfl) ?_
      refine P_ld 132 (.ref 189) rfl (fun _ => rfl) ?_
      refine P_ld 133 (.int (i32 1)) rfl (fun _ => rfl) ?_
      refine P_pf (l' := [(177, 1)]) 136 1 rfl rfl rfl rfl rfl rfl ?_
      refine P_goto 219 rfl (fun _ => rfl) ?_
      exact P_re0 rfl rfl (Cn_mO hm ⟨(rV_i rfl (l32 1 rfl)), trivial⟩ trivial)
    · skip
      refine P_cs (fun h23 => ?_) (fun h23 => ?_)
      · skip
        refine P_cast 327 h23 ?_
        refine P_pop 77 rfl (fun _ => rfl) ?_
        refine P_ld 78 (.ref 189) rfl (fun _ => rfl) ?_
        refine P_gf 82 (.ref 262) rfl rfl rfl rfl rfl rfl ?_
        refine P_ld 83 (.int (i32 v1)) rfl (fun _ => rfl) ?_
        refine P_iald2 84 102 (m.2 102) rfl rfl rfl q1 rfl ?_
        refine P_gf 88 (.ref 292) rfl rfl rfl rfl rfl rfl ?_
        refine P_ld 89 (.ref 189) rfl (fun _ => rfl) ?_
        refine P_ld 90 (.int (i32 v1)) rfl (fun _ => rfl) ?_
        refine P_ca1 93 334 [.ref 189, .int (i32 v1)] [.ref 292, .int (i32 ((m.2 102) v1)), .ref 189] rfl (fun _ => rfl) rfl (D_wordAt w m c N D hm v1 q1) (fun y24 h25 n26 => ?_)
        exact dg_doStatement_93 w c N D bb ((m.2 102) v1) y24.1 (rE_i (Cn_a hm 102) rfl _) h25 y24.2 n26 (jk [(1, v1)])
      · skip
        refine P_cs (fun h27 => ?_) (fun h27 => ?_)
        · skip
          refine P_cast 328 h27 ?_
          refine P_pop 100 rfl (fun _ => rfl) ?_
          refine P_ld 101 (.ref 189) rfl (fun _ => rfl) ?_
          refine P_ld 102 (.int (i32 v1)) rfl (fun _ => rfl) ?_
          refine P_ca1 105 334 [.ref 189, .int (i32 v1)] [] rfl (fun _ => rfl) rfl (D_wordAt w m c N D hm v1 q1) (fun y28 h29 n30 => ?_)
          exact dg_doStatement_105 w c N D bb v1 y28.1 q1 h29 y28.2 n30 (jk [])
        · skip
          refine P_lkd 139 rfl rfl (rE_i (Cn_a hm 101) rfl _) (by simp [Op.lookupswitch.offset, h18, Ne.symm h18, h22, Ne.symm h22, h23, Ne.symm h23, h27, Ne.symm h27]) ?_
          refine P_gf 143 (.ref 264) rfl rfl rfl rfl rfl rfl ?_
          refine P_ld 144 (.int (i32 v1)) rfl (fun _ => rfl) ?_
          refine P_iald2 145 104 (m.2 104) rfl rfl rfl q1 rfl ?_
          refine P_sto 146 [(3, .int (i32 ((m.2 104) v1))), (0, .ref 189), (1, .int (i32 v1))] rfl (fun _ => rfl) ?_
          refine P_gf 150 (.ref 261) rfl rfl rfl rfl rfl rfl ?_
          refine P_ld 151 (.int (i32 v1)) rfl (fun _ => rfl) ?_
          refine P_iald2 152 101 (m.2 101) rfl rfl rfl q1 rfl ?_
          refine P_ld 155 (.int (i32 324)) rfl (fun _ => rfl) ?_
          refine P_icE 162 158 rfl rfl rfl (rE_i (Cn_a hm 101) rfl _) (l32 324 rfl) rfl (fun h31 => ?_) (fun h31 => ?_)
          · skip
            refine P_ld 159 (.int (i32 1)) rfl (fun _ => rfl) ?_
            refine P_goto 163 rfl (fun _ => rfl) ?_
            refine P_lv (b := [(0, .ref 189), (1, .int (i32 v1)), (3, .int (i32 ((m.2 104) v1)))]) rfl rfl ⟨rfl, rfl, rfl, trivial⟩ ?_
            exact dg_doStatement_163 w c N D bb ((m.2 104) v1) 1 (rE_i (Cn_a hm 104) rfl _) (l32 1 rfl) m hm (jk [(1, v1)])
          · skip
            refine P_ld 163 (.int (i32 0)) rfl (fun _ => rfl) ?_
            refine P_lv (b := [(0, .ref 189), (1, .int (i32 v1)), (3, .int (i32 ((m.2 104) v1)))]) rfl rfl ⟨rfl, rfl, rfl, trivial⟩ ?_
            exact dg_doStatement_163 w c N D bb ((m.2 104) v1) 0 (rE_i (Cn_a hm 104) rfl _) (l32 0 rfl) m hm (jk [(1, v1)])
end X55BE
