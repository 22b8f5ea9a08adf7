noncomputable section X28R
def cs_sp_earliest_9 (s : Int × Int × Int) : Prop := R32 s.1 ∧ R32 s.2.1 ∧ R32 s.2.2
def cx_sp_earliest_9 : (Sum (Unit) (Int × Int)) → Prop := (sel (fun (e : Unit) => True) (fun (e : Int × Int) => R32 e.1 ∧ R32 e.2))
def hd_sp_earliest_9 (c : Nat → Option am_C) (N : Nat) (v1 : Int) (v2 : Int) (v3 : Int) (v4 : Int) (m : mR) (s : Int × Int × Int) (j : Nat → Int) : ag_St af_T := (9, [(0, .ref 59), (1, .int (i32 v1)), (2, .int (i32 v2)), (3, .int (i32 v3)), (4, .int (i32 v4)), (5, .int (i32 s.1)), (6, .int (i32 s.2.1)), (7, .int (i32 s.2.2)), (8, .int (i32 (j 8))), (9, .int (i32 (j 9)))], [], (khp m c, N), 0, 0)
def ex_sp_earliest_9 (c : Nat → Option am_C) (N : Nat) (v1 : Int) (v2 : Int) (v3 : Int) (v4 : Int) (m : mR) : (Sum (Unit) (Int × Int)) → (Nat → Int) → ag_St af_T := (sel (fun (e : Unit) (j : Nat → Int) => ((161, [(0, .ref 59), (1, .int (i32 (j 1))), (2, .int (i32 (j 2))), (3, .int (i32 (j 3))), (4, .int (i32 (j 4))), (5, .int (i32 (j 5))), (6, .int (i32 (j 6))), (7, .int (i32 (j 7))), (8, .int (i32 (j 8))), (9, .int (i32 (j 9)))], [], (khp m c, N), 0, 0) : ag_St af_T)) (fun (e : Int × Int) (j : Nat → Int) => ((178, [(0, .ref 59), (1, .int (i32 (j 1))), (2, .int (i32 v2)), (3, .int (i32 v3)), (4, .int (i32 v4)), (5, .int (i32 e.1)), (6, .int (i32 e.2)), (7, .int (i32 (j 7))), (8, .int (i32 (j 8))), (9, .int (i32 (j 9)))], [], (khp m c, N), 0, 0) : ag_St af_T)))
def cs_sp_earliest_182 (s : Int) : Prop := R32 s
def cx_sp_earliest_182 : (Sum (Int) (Unit)) → Prop := (sel (fun (e : Int) => R32 e) (fun (e : Unit) => True))
def hd_sp_earliest_182 (c : Nat → Option am_C) (N : Nat) (v2 : Int) (v3 : Int) (v4 : Int) (v6 : Int) (m : mR) (s : Int) (j : Nat → Int) : ag_St af_T := (182, [(0, .ref 59), (1, .int (i32 (j 1))), (2, .int (i32 v2)), (3, .int (i32 v3)), (4, .int (i32 v4)), (5, .int (i32 (j 5))), (6, .int (i32 v6)), (7, .int (i32 s)), (8, .int (i32 (j 8))), (9, .int (i32 (j 9)))], [], (khp m c, N), 0, 0)
def ex_sp_earliest_182 (c : Nat → Option am_C) (N : Nat) (v2 : Int) (v3 : Int) (v4 : Int) (v6 : Int) (m : mR) : (Sum (Int) (Unit)) → (Nat → Int) → ag_St af_T := (sel (fun (e : Int) (j : Nat → Int) => ((260, [(0, .ref 59), (1, .int (i32 (j 1))), (2, .int (i32 (j 2))), (3, .int (i32 (j 3))), (4, .int (i32 (j 4))), (5, .int (i32 (j 5))), (6, .int (i32 (j 6))), (7, .int (i32 e)), (8, .int (i32 (j 8))), (9, .int (i32 (j 9)))], [], (khp m c, N), 0, 0) : ag_St af_T)) (fun (e : Unit) (j : Nat → Int) => ((269, [(0, .ref 59), (1, .int (i32 (j 1))), (2, .int (i32 (j 2))), (3, .int (i32 (j 3))), (4, .int (i32 (j 4))), (5, .int (i32 (j 5))), (6, .int (i32 (j 6))), (7, .int (i32 (j 7))), (8, .int (i32 (j 8))), (9, .int (i32 (j 9)))], [], (khp m c, N), 0, 0) : ag_St af_T)))
def kfl_sp_earliest_263 (v2 : Int) (v3 : Int) (v4 : Int) (v6 : Int) (v7 : Int) (m : mR) : Option (Sum (Int) (Sum (Int) (Unit))) :=
  some (.inl (cut (v7 + 1)))
theorem dg_sp_earliest_263 (w : wX) (c : Nat → Option am_C) (N D : Nat) (bb : Nat) (v2 : Int) (v3 : Int) (v4 : Int) (v6 : Int) (v7 : Int) (q2 : R32 v2) (q3 : R32 v3) (q4 : R32 v4) (q6 : R32 v6) (q7 : R32 v7) (m : mR) (hm : KCn m) (j : Nat → Int) (Q2 : Sum (Int) (Sum (Int) (Unit)) → ag_Re af_T → Prop) (H1 : ∀ s j, cs_sp_earliest_182 s → PP bb w D pm_159 (hd_sp_earliest_182 c N v2 v3 v4 v6 m s j) (Q2 (.inl s))) (H2 : ∀ x j, cx_sp_earliest_182 x → PP bb w D pm_159 (ex_sp_earliest_182 c N v2 v3 v4 v6 m x j) (Q2 (.inr x))) : PP bb w D pm_159 (263, [(0, .ref 59), (1, .int (i32 (j 1))), (2, .int (i32 v2)), (3, .int (i32 v3)), (4, .int (i32 v4)), (5, .int (i32 (j 5))), (6, .int (i32 v6)), (7, .int (i32 v7)), (8, .int (i32 (j 8))), (9, .int (i32 (j 9)))], [], (khp m c, N), 0, 0) (QS Q2 (kfl_sp_earliest_263 v2 v3 v4 v6 v7 m)) := by
  unfold kfl_sp_earliest_263
  show PP bb w D pm_159 (263, [(0, .ref 59), (1, .int (i32 (j 1))), (2, .int (i32 v2)), (3, .int (i32 v3)), (4, .int (i32 v4)), (5, .int (i32 (j 5))), (6, .int (i32 v6)), (7, .int (i32 v7)), (8, .int (i32 (j 8))), (9, .int (i32 (j 9)))], [], (khp (mO m [] []) c, N), 0, 0) _
  refine P_inc 266 [(7, .int (i32 (cut (v7 + 1)))), (0, .ref 59), (1, .int (i32 (j 1))), (2, .int (i32 v2)), (3, .int (i32 v3)), (4, .int (i32 v4)), (5, .int (i32 (j 5))), (6, .int (i32 v6)), (8, .int (i32 (j 8))), (9, .int (i32 (j 9)))] rfl rfl (by decide) rfl rfl ?_
  refine P_goto 182 rfl (fun _ => rfl) ?_
  refine P_some ?_
  refine P_lv (b := [(0, .ref 59), (1, .int (i32 (j 1))), (2, .int (i32 v2)), (3, .int (i32 v3)), (4, .int (i32 v4)), (5, .int (i32 (j 5))), (6, .int (i32 v6)), (7, .int (i32 (cut (v7 + 1)))), (8, .int (i32 (j 8))), (9, .int (i32 (j 9)))]) rfl rfl ⟨rfl, rfl, rfl, rfl, rfl, rfl, rfl, rfl, rfl, rfl, trivial⟩ ?_
  exact H1 (cut (v7 + 1)) (jk [(1, j 1), (5, j 5), (8, j 8), (9, j 9)]) cut_r
def kfl_sp_earliest_236 (v2 : Int) (v3 : Int) (v4 : Int) (v6 : Int) (v7 : Int) (v8 : Int) (u0 : Int) (m : mR) : Option (Sum (Int) (Sum (Int) (Unit))) :=
  if v8 = 0 then
    kfl_sp_earliest_263 v2 v3 v4 v6 v7 m
  else
    if u0 = 0 then
      kfl_sp_earliest_263 v2 v3 v4 v6 v7 m
    else
      if (8 : Int) ≤ (m.2 63) v7 then
        kfl_sp_earliest_263 v2 v3 v4 v6 v7 m
      else
        some (.inr (.inl v7))
theorem dg_sp_earliest_236 (w : wX) (c : Nat → Option am_C) (N D : Nat) (bb : Nat) (v2 : Int) (v3 : Int) (v4 : Int) (v6 : Int) (v7 : Int) (v8 : Int) (u0 : Int) (q2 : R32 v2) (q3 : R32 v3) (q4 : R32 v4) (q6 : R32 v6) (q7 : R32 v7) (q8 : R32 v8) (r0 : R32 u0) (m : mR) (hm : KCn m) (j : Nat → Int) (Q2 : Sum (Int) (Sum (Int) (Unit)) → ag_Re af_T → Prop) (H1 : ∀ s j, cs_sp_earliest_182 s → PP bb w D pm_159 (hd_sp_earliest_182 c N v2 v3 v4 v6 m s j) (Q2 (.inl s))) (H2 : ∀ x j, cx_sp_earliest_182 x → PP bb w D pm_159 (ex_sp_earliest_182 c N v2 v3 v4 v6 m x j) (Q2 (.inr x))) : PP bb w D pm_159 (236, [(0, .ref 59), (1, .int (i32 (j 1))), (2, .int (i32 v2)), (3, .int (i32 v3)), (4, .int (i32 v4)), (5, .int (i32 (j 5))), (6, .int (i32 v6)), (7, .int (i32 v7)), (8, .int (i32 v8)), (9, .int (i32 (j 9)))], [.int (i32 u0)], (khp m c, N), 0, 0) (QS Q2 (kfl_sp_earliest_236 v2 v3 v4 v6 v7 v8 u0 m)) := by
  unfold kfl_sp_earliest_236
  show PP bb w D pm_159 (236, [(0, .ref 59), (1, .int (i32 (j 1))), (2, .int (i32 v2)), (3, .int (i32 v3)), (4, .int (i32 v4)), (5, .int (i32 (j 5))), (6, .int (i32 v6)), (7, .int (i32 v7)), (8, .int (i32 v8)), (9, .int (i32 (j 9)))], [.int (i32 u0)], (khp (mO m [] []) c, N), 0, 0) _
  refine P_sto 238 [(9, .int (i32 u0)), (0, .ref 59), (1, .int (i32 (j 1))), (2, .int (i32 v2)), (3, .int (i32 v3)), (4, .int (i32 v4)), (5, .int (i32 (j 5))), (6, .int (i32 v6)), (7, .int (i32 v7)), (8, .int (i32 v8))] rfl (fun _ => rfl) ?_
  refine P_ld 240 (.int (i32 v8)) rfl (fun _ => rfl) ?_
  refine P_ifF 263 243 rfl rfl rfl q8 rfl (fun h4 => ?_) (fun h4 => ?_)
  · skip
    refine P_lv (b := [(0, .ref 59), (1, .int (i32 (j 1))), (2, .int (i32 v2)), (3, .int (i32 v3)), (4, .int (i32 v4)), (5, .int (i32 (j 5))), (6, .int (i32 v6)), (7, .int (i32 v7)), (8, .int (i32 v8)), (9, .int (i32 u0))]) rfl rfl ⟨rfl, rfl, rfl, rfl, rfl, rfl, rfl, rfl, rfl, rfl, trivial⟩ ?_
    exact dg_sp_earliest_263 w c N D bb v2 v3 v4 v6 v7 q2 q3 q4 q6 q7 m hm (jk [(1, j 1), (5, j 5), (8, v8), (9, u0)]) Q2 H1 H2
  · skip
    refine P_ld 245 (.int (i32 u0)) rfl (fun _ => rfl) ?_
    refine P_ifF 263 248 rfl rfl rfl r0 rfl (fun h5 => ?_) (fun h5 => ?_)
    · skip
      refine P_lv (b := [(0, .ref 59), (1, .int (i32 (j 1))), (2, .int (i32 v2)), (3, .int (i32 v3)), (4, .int (i32 v4)), (5, .int (i32 (j 5))), (6, .int (i32 v6)), (7, .int (i32 v7)), (8, .int (i32 v8)), (9, .int (i32 u0))]) rfl rfl ⟨rfl, rfl, rfl, rfl, rfl, rfl, rfl, rfl, rfl, rfl, trivial⟩ ?_
      exact dg_sp_earliest_263 w c N D bb v2 v3 v4 v6 v7 q2 q3 q4 q6 q7 m hm (jk [(1, j 1), (5, j 5), (8, v8), (9, u0)]) Q2 H1 H2
    · skip
      refine P_ld 249 (.ref 59) rfl (fun _ => rfl) ?_
      refine PK_gf 252 (.ref 71) rfl rfl kd_59 rfl rfl rfl ?_
      refine P_ld 254 (.int (i32 v7)) rfl (fun _ => rfl) ?_
      refine PK_iald2 255 63 (m.2 63) rfl rfl rfl q7 rfl ?_
      refine P_ld 257 (.int (i32 8)) rfl (fun _ => rfl) ?_
      refine P_icF 263 260 rfl rfl rfl (kE_i (KCn_a hm 63) rfl _) (l32 8 rfl) rfl (fun h6 => ?_) (fun h6 => ?_)
      · skip
        refine P_lv (b := [(0, .ref 59), (1, .int (i32 (j 1))), (2, .int (i32 v2)), (3, .int (i32 v3)), (4, .int (i32 v4)), (5, .int (i32 (j 5))), (6, .int (i32 v6)), (7, .int (i32 v7)), (8, .int (i32 v8)), (9, .int (i32 u0))]) rfl rfl ⟨rfl, rfl, rfl, rfl, rfl, rfl, rfl, rfl, rfl, rfl, trivial⟩ ?_
        exact dg_sp_earliest_263 w c N D bb v2 v3 v4 v6 v7 q2 q3 q4 q6 q7 m hm (jk [(1, j 1), (5, j 5), (8, v8), (9, u0)]) Q2 H1 H2
      · skip
        refine P_some ?_
        refine P_lv (b := [(0, .ref 59), (1, .int (i32 (j 1))), (2, .int (i32 v2)), (3, .int (i32 v3)), (4, .int (i32 v4)), (5, .int (i32 (j 5))), (6, .int (i32 v6)), (7, .int (i32 v7)), (8, .int (i32 v8)), (9, .int (i32 u0))]) rfl rfl ⟨rfl, rfl, rfl, rfl, rfl, rfl, rfl, rfl, rfl, rfl, trivial⟩ ?_
        exact H2 (.inl v7) (jk [(1, j 1), (2, v2), (3, v3), (4, v4), (5, j 5), (6, v6), (8, v8), (9, u0)]) q7
def kfl_sp_earliest_235 (v2 : Int) (v3 : Int) (v4 : Int) (v6 : Int) (v7 : Int) (v8 : Int) (m : mR) : Option (Sum (Int) (Sum (Int) (Unit))) :=
  kfl_sp_earliest_236 v2 v3 v4 v6 v7 v8 0 m
theorem dg_sp_earliest_235 (w : wX) (c : Nat → Option am_C) (N D : Nat) (bb : Nat) (v2 : Int) (v3 : Int) (v4 : Int) (v6 : Int) (v7 : Int) (v8 : Int) (q2 : R32 v2) (q3 : R32 v3) (q4 : R32 v4) (q6 : R32 v6) (q7 : R32 v7) (q8 : R32 v8) (m : mR) (hm : KCn m) (j : Nat → Int) (Q2 : Sum (Int) (Sum (Int) (Unit)) → ag_Re af_T → Prop) (H1 : ∀ s j, cs_sp_earliest_182 s → PP bb w D pm_159 (hd_sp_earliest_182 c N v2 v3 v4 v6 m s j) (Q2 (.inl s))) (H2 : ∀ x j, cx_sp_earliest_182 x → PP bb w D pm_159 (ex_sp_earliest_182 c N v2 v3 v4 v6 m x j) (Q2 (.inr x))) : PP bb w D pm_159 (235, [(0, .ref 59), (1, .int (i32 (j 1))), (2, .int (i32 v2)), (3, .int (i32 v3)), (4, .int (i32 v4)), (5, .int (i32 (j 5))), (6, .int (i32 v6)), (7, .int (i32 v7)), (8, .int (i32 v8)), (9, .int (i32 (j 9)))], [], (khp m c, N), 0, 0) (QS Q2 (kfl_sp_earliest_235 v2 v3 v4 v6 v7 v8 m)) := by
  unfold kfl_sp_earliest_235
  show PP bb w D pm_159 (235, [(0, .ref 59), (1, .int (i32 (j 1))), (2, .int (i32 v2)), (3, .int (i32 v3)), (4, .int (i32 v4)), (5, .int (i32 (j 5))), (6, .int (i32 v6)), (7, .int (i32 v7)), (8, .int (i32 v8)), (9, .int (i32 (j 9)))], [], (khp (mO m [] []) c, N), 0, 0) _
  refine P_ld 236 (.int (i32 0)) rfl (fun _ => rfl) ?_
  exact dg_sp_earliest_236 w c N D bb v2 v3 v4 v6 v7 v8 0 q2 q3 q4 q6 q7 q8 (l32 0 rfl) m hm (jk [(1, j 1), (5, j 5), (9, j 9)]) Q2 H1 H2
def kfl_sp_earliest_206 (v2 : Int) (v3 : Int) (v4 : Int) (v6 : Int) (v7 : Int) (u0 : Int) (m : mR) : Option (Sum (Int) (Sum (Int) (Unit))) :=
  if v3 < (m.2 64) v7 then
    kfl_sp_earliest_235 v2 v3 v4 v6 v7 u0 m
  else
    if v4 < (m.2 65) v7 then
      kfl_sp_earliest_235 v2 v3 v4 v6 v7 u0 m
    else
      kfl_sp_earliest_236 v2 v3 v4 v6 v7 u0 1 m
theorem dg_sp_earliest_206 (w : wX) (c : Nat → Option am_C) (N D : Nat) (bb : Nat) (v2 : Int) (v3 : Int) (v4 : Int) (v6 : Int) (v7 : Int) (u0 : Int) (q2 : R32 v2) (q3 : R32 v3) (q4 : R32 v4) (q6 : R32 v6) (q7 : R32 v7) (r0 : R32 u0) (m : mR) (hm : KCn m) (j : Nat → Int) (Q2 : Sum (Int) (Sum (Int) (Unit)) → ag_Re af_T → Prop) (H1 : ∀ s j, cs_sp_earliest_182 s → PP bb w D pm_159 (hd_sp_earliest_182 c N v2 v3 v4 v6 m s j) (Q2 (.inl s))) (H2 : ∀ x j, cx_sp_earliest_182 x → PP bb w D pm_159 (ex_sp_earliest_182 c N v2 v3 v4 v6 m x j) (Q2 (.inr x))) : PP bb w D pm_159 (206, [(0, .ref 59), (1, .int (i32 (j 1))), (2, .int (i32 v2)), (3, .int (i32 v3)), (4, .int (i32 v4)), (5, .int (i32 (j 5))), (6, .int (i32 v6)), (7, .int (i32 v7)), (8, .int (i32 (j 8))), (9, .int (i32 (j 9)))], [.int (i32 u0)], (khp m c, N), 0, 0) (QS Q2 (kfl_sp_earliest_206 v2 v3 v4 v6 v7 u0 m)) := by
  unfold kfl_sp_earliest_206
  show PP bb w D pm_159 (206, [(0, .ref 59), (1, .int (i32 (j 1))), (2, .int (i32 v2)), (3, .int (i32 v3)), (4, .int (i32 v4)), (5, .int (i32 (j 5))), (6, .int (i32 v6)), (7, .int (i32 v7)), (8, .int (i32 (j 8))), (9, .int (i32 (j 9)))], [.int (i32 u0)], (khp (mO m [] []) c, N), 0, 0) _
  refine P_sto 208 [(8, .int (i32 u0)), (0, .ref 59), (1, .int (i32 (j 1))), (2, .int (i32 v2)), (3, .int (i32 v3)), (4, .int (i32 v4)), (5, .int (i32 (j 5))), (6, .int (i32 v6)), (7, .int (i32 v7)), (9, .int (i32 (j 9)))] rfl (fun _ => rfl) ?_
  refine P_ld 209 (.ref 59) rfl (fun _ => rfl) ?_
  refine PK_gf 212 (.ref 72) rfl rfl kd_59 rfl rfl rfl ?_
  refine P_ld 214 (.int (i32 v7)) rfl (fun _ => rfl) ?_
  refine PK_iald2 215 64 (m.2 64) rfl rfl rfl q7 rfl ?_
  refine P_ld 216 (.int (i32 v3)) rfl (fun _ => rfl) ?_
  refine P_icF 235 219 rfl rfl rfl (kE_i (KCn_a hm 64) rfl _) q3 rfl (fun h7 => ?_) (fun h7 => ?_)
  · skip
    refine P_lv (b := [(0, .ref 59), (1, .int (i32 (j 1))), (2, .int (i32 v2)), (3, .int (i32 v3)), (4, .int (i32 v4)), (5, .int (i32 (j 5))), (6, .int (i32 v6)), (7, .int (i32 v7)), (8, .int (i32 u0)), (9, .int (i32 (j 9)))]) rfl rfl ⟨rfl, rfl, rfl, rfl, rfl, rfl, rfl, rfl, rfl, rfl, trivial⟩ ?_
    exact dg_sp_earliest_235 w c N D bb v2 v3 v4 v6 v7 u0 q2 q3 q4 q6 q7 r0 m hm (jk [(1, j 1), (5, j 5), (9, j 9)]) Q2 H1 H2
  · skip
    refine P_ld 220 (.ref 59) rfl (fun _ => rfl) ?_
    refine PK_gf 223 (.ref 73) rfl rfl kd_59 rfl rfl rfl ?_
    refine P_ld 225 (.int (i32 v7)) rfl (fun _ => rfl) ?_
    refine PK_iald2 226 65 (m.2 65) rfl rfl rfl q7 rfl ?_
    refine P_ld 228 (.int (i32 v4)) rfl (fun _ => rfl) ?_
    refine P_icF 235 231 rfl rfl rfl (kE_i (KCn_a hm 65) rfl _) q4 rfl (fun h8 => ?_) (fun h8 => ?_)
    · skip
      refine P_lv (b := [(0, .ref 59), (1, .int (i32 (j 1))), (2, .int (i32 v2)), (3, .int (i32 v3)), (4, .int (i32 v4)), (5, .int (i32 (j 5))), (6, .int (i32 v6)), (7, .int (i32 v7)), (8, .int (i32 u0)), (9, .int (i32 (j 9)))]) rfl rfl ⟨rfl, rfl, rfl, rfl, rfl, rfl, rfl, rfl, rfl, rfl, trivial⟩ ?_
      exact dg_sp_earliest_235 w c N D bb v2 v3 v4 v6 v7 u0 q2 q3 q4 q6 q7 r0 m hm (jk [(1, j 1), (5, j 5), (9, j 9)]) Q2 H1 H2
    · skip
      refine P_ld 232 (.int (i32 1)) rfl (fun _ => rfl) ?_
      refine P_goto 236 rfl (fun _ => rfl) ?_
      refine P_lv (b := [(0, .ref 59), (1, .int (i32 (j 1))), (2, .int (i32 v2)), (3, .int (i32 v3)), (4, .int (i32 v4)), (5, .int (i32 (j 5))), (6, .int (i32 v6)), (7, .int (i32 v7)), (8, .int (i32 u0)), (9, .int (i32 (j 9)))]) rfl rfl ⟨rfl, rfl, rfl, rfl, rfl, rfl, rfl, rfl, rfl, rfl, trivial⟩ ?_
      exact dg_sp_earliest_236 w c N D bb v2 v3 v4 v6 v7 u0 1 q2 q3 q4 q6 q7 r0 (l32 1 rfl) m hm (jk [(1, j 1), (5, j 5), (9, j 9)]) Q2 H1 H2
def kfl_sp_earliest_201 (v2 : Int) (v3 : Int) (v4 : Int) (v6 : Int) (v7 : Int) (m : mR) : Option (Sum (Int) (Sum (Int) (Unit))) :=
  kfl_sp_earliest_206 v2 v3 v4 v6 v7 1 m
theorem dg_sp_earliest_201 (w : wX) (c : Nat → Option am_C) (N D : Nat) (bb : Nat) (v2 : Int) (v3 : Int) (v4 : Int) (v6 : Int) (v7 : Int) (q2 : R32 v2) (q3 : R32 v3) (q4 : R32 v4) (q6 : R32 v6) (q7 : R32 v7) (m : mR) (hm : KCn m) (j : Nat → Int) (Q2 : Sum (Int) (Sum (Int) (Unit)) → ag_Re af_T → Prop) (H1 : ∀ s j, cs_sp_earliest_182 s → PP bb w D pm_159 (hd_sp_earliest_182 c N v2 v3 v4 v6 m s j) (Q2 (.inl s))) (H2 : ∀ x j, cx_sp_earliest_182 x → PP bb w D pm_159 (ex_sp_earliest_182 c N v2 v3 v4 v6 m x j) (Q2 (.inr x))) : PP bb w D pm_159 (201, [(0, .ref 59), (1, .int (i32 (j 1))), (2, .int (i32 v2)), (3, .int (i32 v3)), (4, .int (i32 v4)), (5, .int (i32 (j 5))), (6, .int (i32 v6)), (7, .int (i32 v7)), (8, .int (i32 (j 8))), (9, .int (i32 (j 9)))], [], (khp m c, N), 0, 0) (QS Q2 (kfl_sp_earliest_201 v2 v3 v4 v6 v7 m)) := by
  unfold kfl_sp_earliest_201
  show PP bb w D pm_159 (201, [(0, .ref 59), (1, .int (i32 (j 1))), (2, .int (i32 v2)), (3, .int (i32 v3)), (4, .int (i32 v4)), (5, .int (i32 (j 5))), (6, .int (i32 v6)), (7, .int (i32 v7)), (8, .int (i32 (j 8))), (9, .int (i32 (j 9)))], [], (khp (mO m [] []) c, N), 0, 0) _
  refine P_ld 202 (.int (i32 1)) rfl (fun _ => rfl) ?_
  refine P_goto 206 rfl (fun _ => rfl) ?_
  exact dg_sp_earliest_206 w c N D bb v2 v3 v4 v6 v7 1 q2 q3 q4 q6 q7 (l32 1 rfl) m hm (jk [(1, j 1), (5, j 5), (8, j 8), (9, j 9)]) Q2 H1 H2
def kfb_sp_earliest_182 (v2 : Int) (v3 : Int) (v4 : Int) (v6 : Int) (m : mR) (s : Int) : Option (Sum (Int) (Sum (Int) (Unit))) :=
  if v2 ≤ s then
    some (.inr (.inr ()))
  else
    if v6 = (-1) then
      kfl_sp_earliest_201 v2 v3 v4 v6 s m
    else
      if v6 = s then
        kfl_sp_earliest_201 v2 v3 v4 v6 s m
      else
        kfl_sp_earliest_206 v2 v3 v4 v6 s 0 m
theorem dh_sp_earliest_182 (w : wX) (c : Nat → Option am_C) (N D : Nat) (v2 : Int) (v3 : Int) (v4 : Int) (v6 : Int) (q2 : R32 v2) (q3 : R32 v3) (q4 : R32 v4) (q6 : R32 v6) (m : mR) (hm : KCn m) (bb : Nat) (Q2 : Sum (Int) (Sum (Int) (Unit)) → ag_Re af_T → Prop) (H1 : ∀ s j, cs_sp_earliest_182 s → PP bb w D pm_159 (hd_sp_earliest_182 c N v2 v3 v4 v6 m s j) (Q2 (.inl s))) (H2 : ∀ x j, cx_sp_earliest_182 x → PP bb w D pm_159 (ex_sp_earliest_182 c N v2 v3 v4 v6 m x j) (Q2 (.inr x))) (s : Int) (j : Nat → Int) (hs : cs_sp_earliest_182 s) : PP (bb + 1) w D pm_159 (hd_sp_earliest_182 c N v2 v3 v4 v6 m s j) (QS Q2 (kfb_sp_earliest_182 v2 v3 v4 v6 m s)) := by
  have g7 := hs
  unfold kfb_sp_earliest_182
  show PP (bb + 1) w D pm_159 (182, [(0, .ref 59), (1, .int (i32 (j 1))), (2, .int (i32 v2)), (3, .int (i32 v3)), (4, .int (i32 v4)), (5, .int (i32 (j 5))), (6, .int (i32 v6)), (7, .int (i32 s)), (8, .int (i32 (j 8))), (9, .int (i32 (j 9)))], [], (khp (mO m [] []) c, N), 0, 0) _
  refine P1_ld 184 (.int (i32 s)) rfl (fun _ => rfl) ?_
  refine P_ld 185 (.int (i32 v2)) rfl (fun _ => rfl) ?_
  refine P_icF 269 188 rfl rfl rfl g7 q2 rfl (fun h10 => ?_) (fun h10 => ?_)
  · skip
    refine P_some ?_
    exact H2 (.inr ()) (jk [(1, j 1), (2, v2), (3, v3), (4, v4), (5, j 5), (6, v6), (7, s), (8, j 8), (9, j 9)]) trivial
  · skip
    refine P_ld 190 (.int (i32 v6)) rfl (fun _ => rfl) ?_
    refine P_ld 191 (.int (i32 (-1))) rfl (fun _ => rfl) ?_
    refine P_icF 201 194 rfl rfl rfl q6 (l32 (-1) rfl) rfl (fun h11 => ?_) (fun h11 => ?_)
    · skip
      exact dg_sp_earliest_201 w c N D bb v2 v3 v4 v6 s q2 q3 q4 q6 g7 m hm (jk [(1, j 1), (5, j 5), (8, j 8), (9, j 9)]) Q2 H1 H2
    · skip
      refine P_ld 196 (.int (i32 v6)) rfl (fun _ => rfl) ?_
      refine P_ld 198 (.int (i32 s)) rfl (fun _ => rfl) ?_
      refine P_icE 205 201 rfl rfl rfl q6 g7 rfl (fun h12 => ?_) (fun h12 => ?_)
      · skip
        exact dg_sp_earliest_201 w c N D bb v2 v3 v4 v6 s q2 q3 q4 q6 g7 m hm (jk [(1, j 1), (5, j 5), (8, j 8), (9, j 9)]) Q2 H1 H2
      · skip
        refine P_ld 206 (.int (i32 0)) rfl (fun _ => rfl) ?_
        exact dg_sp_earliest_206 w c N D bb v2 v3 v4 v6 s 0 q2 q3 q4 q6 g7 (l32 0 rfl) m hm (jk [(1, j 1), (5, j 5), (8, j 8), (9, j 9)]) Q2 H1 H2
def kfl_sp_earliest_178 (v2 : Int) (v3 : Int) (v4 : Int) (v5 : Int) (v6 : Int) (m : mR) : Option Int :=
  bnd (whl (kfb_sp_earliest_182 v2 v3 v4 v6 m) v5) (sel
    (fun e13 : Int =>
      some e13)
    (fun e16 : Unit =>
      some (-1)))
theorem dg_sp_earliest_178 (w : wX) (c : Nat → Option am_C) (N D : Nat) (bb : Nat) (v2 : Int) (v3 : Int) (v4 : Int) (v5 : Int) (v6 : Int) (q2 : R32 v2) (q3 : R32 v3) (q4 : R32 v4) (q5 : R32 v5) (q6 : R32 v6) (m : mR) (hm : KCn m) (j : Nat → Int) : PP bb w D pm_159 (178, [(0, .ref 59), (1, .int (i32 (j 1))), (2, .int (i32 v2)), (3, .int (i32 v3)), (4, .int (i32 v4)), (5, .int (i32 v5)), (6, .int (i32 v6)), (7, .int (i32 (j 7))), (8, .int (i32 (j 8))), (9, .int (i32 (j 9)))], [], (khp m c, N), 0, 0) (QS (FP1 (khp m c, N)) (kfl_sp_earliest_178 v2 v3 v4 v5 v6 m)) := by
  unfold kfl_sp_earliest_178
  show PP bb w D pm_159 (178, [(0, .ref 59), (1, .int (i32 (j 1))), (2, .int (i32 v2)), (3, .int (i32 v3)), (4, .int (i32 v4)), (5, .int (i32 v5)), (6, .int (i32 v6)), (7, .int (i32 (j 7))), (8, .int (i32 (j 8))), (9, .int (i32 (j 9)))], [], (khp (mO m [] []) c, N), 0, 0) _
  refine P_ld 180 (.int (i32 v5)) rfl (fun _ => rfl) ?_
  refine P_sto 182 [(7, .int (i32 v5)), (0, .ref 59), (1, .int (i32 (j 1))), (2, .int (i32 v2)), (3, .int (i32 v3)), (4, .int (i32 v4)), (5, .int (i32 v5)), (6, .int (i32 v6)), (8, .int (i32 (j 8))), (9, .int (i32 (j 9)))] rfl (fun _ => rfl) ?_
  refine P_lv (b := [(0, .ref 59), (1, .int (i32 (j 1))), (2, .int (i32 v2)), (3, .int (i32 v3)), (4, .int (i32 v4)), (5, .int (i32 v5)), (6, .int (i32 v6)), (7, .int (i32 v5)), (8, .int (i32 (j 8))), (9, .int (i32 (j 9)))]) rfl rfl ⟨rfl, rfl, rfl, rfl, rfl, rfl, rfl, rfl, rfl, rfl, trivial⟩ ?_
  refine P_bnd ?_
  refine P_whl (fun bb Q2 H1 H2 s9 j9 hs9 => dh_sp_earliest_182 w c N D v2 v3 v4 v6 q2 q3 q4 q6 m hm bb Q2 H1 H2 s9 j9 hs9) bb (fun x0 j hx0 => ?_) v5 (jk [(1, j 1), (5, v5), (8, j 8), (9, j 9)]) q5
  cases x0 with
  | inl e13 =>
    have q14 := hx0
    have q15 := q14
    show PP bb w D pm_159 (260, [(0, .ref 59), (1, .int (i32 (j 1))), (2, .int (i32 (j 2))), (3, .int (i32 (j 3))), (4, .int (i32 (j 4))), (5, .int (i32 (j 5))), (6, .int (i32 (j 6))), (7, .int (i32 e13)), (8, .int (i32 (j 8))), (9, .int (i32 (j 9)))], [], (khp (mO m [] []) c, N), 0, 0) (QS _ (some e13))
    refine P_ld 262 (.int (i32 e13)) rfl (fun _ => rfl) ?_
    exact P_rp1 rfl q15
  | inr e16 =>
    have q17 := hx0
    show PP bb w D pm_159 (269, [(0, .ref 59), (1, .int (i32 (j 1))), (2, .int (i32 (j 2))), (3, .int (i32 (j 3))), (4, .int (i32 (j 4))), (5, .int (i32 (j 5))), (6, .int (i32 (j 6))), (7, .int (i32 (j 7))), (8, .int (i32 (j 8))), (9, .int (i32 (j 9)))], [], (khp (mO m [] []) c, N), 0, 0) (QS _ (some (-1)))
    refine P_ld 270 (.int (i32 (-1))) rfl (fun _ => rfl) ?_
    exact P_rp1 rfl (l32 (-1) rfl)
def kfl_sp_earliest_172 (v1 : Int) (v2 : Int) (v3 : Int) (v4 : Int) (v5 : Int) (v6 : Int) (v7 : Int) (m : mR) : Option (Sum (Int × Int × Int) (Sum (Unit) (Int × Int))) :=
  some (.inl (v5, v6, cut (v7 + 1)))
theorem dg_sp_earliest_172 (w : wX) (c : Nat → Option am_C) (N D : Nat) (bb : Nat) (v1 : Int) (v2 : Int) (v3 : Int) (v4 : Int) (v5 : Int) (v6 : Int) (v7 : Int) (q1 : R32 v1) (q2 : R32 v2) (q3 : R32 v3) (q4 : R32 v4) (q5 : R32 v5) (q6 : R32 v6) (q7 : R32 v7) (m : mR) (hm : KCn m) (j : Nat → Int) (Q2 : Sum (Int × Int × Int) (Sum (Unit) (Int × Int)) → ag_Re af_T → Prop) (H1 : ∀ s j, cs_sp_earliest_9 s → PP bb w D pm_159 (hd_sp_earliest_9 c N v1 v2 v3 v4 m s j) (Q2 (.inl s))) (H2 : ∀ x j, cx_sp_earliest_9 x → PP bb w D pm_159 (ex_sp_earliest_9 c N v1 v2 v3 v4 m x j) (Q2 (.inr x))) : PP bb w D pm_159 (172, [(0, .ref 59), (1, .int (i32 v1)), (2, .int (i32 v2)), (3, .int (i32 v3)), (4, .int (i32 v4)), (5, .int (i32 v5)), (6, .int (i32 v6)), (7, .int (i32 v7)), (8, .int (i32 (j 8))), (9, .int (i32 (j 9)))], [], (khp m c, N), 0, 0) (QS Q2 (kfl_sp_earliest_172 v1 v2 v3 v4 v5 v6 v7 m)) := by
  unfold kfl_sp_earliest_172
  show PP bb w D pm_159 (172, [(0, .ref 59), (1, .int (i32 v1)), (2, .int (i32 v2)), (3, .int (i32 v3)), (4, .int (i32 v4)), (5, .int (i32 v5)), (6, .int (i32 v6)), (7, .int (i32 v7)), (8, .int (i32 (j 8))), (9, .int (i32 (j 9)))], [], (khp (mO m [] []) c, N), 0, 0) _
  refine P_inc 175 [(7, .int (i32 (cut (v7 + 1)))), (0, .ref 59), (1, .int (i32 v1)), (2, .int (i32 v2)), (3, .int (i32 v3)), (4, .int (i32 v4)), (5, .int (i32 v5)), (6, .int (i32 v6)), (8, .int (i32 (j 8))), (9, .int (i32 (j 9)))] rfl rfl (by decide) rfl rfl ?_
  refine P_goto 9 rfl (fun _ => rfl) ?_
  refine P_some ?_
  refine P_lv (b := [(0, .ref 59), (1, .int (i32 v1)), (2, .int (i32 v2)), (3, .int (i32 v3)), (4, .int (i32 v4)), (5, .int (i32 v5)), (6, .int (i32 v6)), (7, .int (i32 (cut (v7 + 1)))), (8, .int (i32 (j 8))), (9, .int (i32 (j 9)))]) rfl rfl ⟨rfl, rfl, rfl, rfl, rfl, rfl, rfl, rfl, rfl, rfl, trivial⟩ ?_
  exact H1 (v5, v6, cut (v7 + 1)) (jk [(8, j 8), (9, j 9)]) ⟨q5, q6, cut_r⟩
def kfl_sp_earliest_163 (v1 : Int) (v2 : Int) (v3 : Int) (v4 : Int) (v5 : Int) (v7 : Int) (m : mR) : Option (Sum (Int × Int × Int) (Sum (Unit) (Int × Int))) :=
  kfl_sp_earliest_172 v1 v2 v3 v4 v5 ((m.2 59) v7) v7 m
theorem dg_sp_earliest_163 (w : wX) (c : Nat → Option am_C) (N D : Nat) (bb : Nat) (v1 : Int) (v2 : Int) (v3 : Int) (v4 : Int) (v5 : Int) (v7 : Int) (q1 : R32 v1) (q2 : R32 v2) (q3 : R32 v3) (q4 : R32 v4) (q5 : R32 v5) (q7 : R32 v7) (m : mR) (hm : KCn m) (j : Nat → Int) (Q2 : Sum (Int × Int × Int) (Sum (Unit) (Int × Int)) → ag_Re af_T → Prop) (H1 : ∀ s j, cs_sp_earliest_9 s → PP bb w D pm_159 (hd_sp_earliest_9 c N v1 v2 v3 v4 m s j) (Q2 (.inl s))) (H2 : ∀ x j, cx_sp_earliest_9 x → PP bb w D pm_159 (ex_sp_earliest_9 c N v1 v2 v3 v4 m x j) (Q2 (.inr x))) : PP bb w D pm_159 (163, [(0, .ref 59), (1, .int (i32 v1)), (2, .int (i32 v2)), (3, .int (i32 v3)), (4, .int (i32 v4)), (5, .int (i32 v5)), (6, .int (i32 (j 6))), (7, .int (i32 v7)), (8, .int (i32 (j 8))), (9, .int (i32 (j 9)))], [], (khp m c, N), 0, 0) (QS Q2 (kfl_sp_earliest_163 v1 v2 v3 v4 v5 v7 m)) := by
  unfold kfl_sp_earliest_163
  show PP bb w D pm_159 (163, [(0, .ref 59), (1, .int (i32 v1)), (2, .int (i32 v2)), (3, .int (i32 v3)), (4, .int (i32 v4)), (5, .int (i32 v5)), (6, .int (i32 (j 6))), (7, .int (i32 v7)), (8, .int (i32 (j 8))), (9, .int (i32 (j 9)))], [], (khp (mO m [] []) c, N), 0, 0) _
  refine P_ld 164 (.ref 59) rfl (fun _ => rfl) ?_
  refine PK_gf 167 (.ref 67) rfl rfl kd_59 rfl rfl rfl ?_
  refine P_ld 169 (.int (i32 v7)) rfl (fun _ => rfl) ?_
  refine PK_iald2 170 59 (m.2 59) rfl rfl rfl q7 rfl ?_
  refine P_sto 172 [(6, .int (i32 ((m.2 59) v7))), (0, .ref 59), (1, .int (i32 v1)), (2, .int (i32 v2)), (3, .int (i32 v3)), (4, .int (i32 v4)), (5, .int (i32 v5)), (7, .int (i32 v7)), (8, .int (i32 (j 8))), (9, .int (i32 (j 9)))] rfl (fun _ => rfl) ?_
  refine P_lv (b := [(0, .ref 59), (1, .int (i32 v1)), (2, .int (i32 v2)), (3, .int (i32 v3)), (4, .int (i32 v4)), (5, .int (i32 v5)), (6, .int (i32 ((m.2 59) v7))), (7, .int (i32 v7)), (8, .int (i32 (j 8))), (9, .int (i32 (j 9)))]) rfl rfl ⟨rfl, rfl, rfl, rfl, rfl, rfl, rfl, rfl, rfl, rfl, trivial⟩ ?_
  exact dg_sp_earliest_172 w c N D bb v1 v2 v3 v4 v5 ((m.2 59) v7) v7 q1 q2 q3 q4 q5 (kE_i (KCn_a hm 59) rfl _) q7 m hm (jk [(8, j 8), (9, j 9)]) Q2 H1 H2
def kfl_sp_earliest_115 (v1 : Int) (v2 : Int) (v3 : Int) (v4 : Int) (v5 : Int) (v6 : Int) (v7 : Int) (u0 : Int) (m : mR) : Option (Sum (Int × Int × Int) (Sum (Unit) (Int × Int))) :=
  bnd (kf_Math_max v5 u0 m) fun y18 =>
  if and32 ((m.2 62) v7) ((m.2 62) v1) = 0 then
    kfl_sp_earliest_172 v1 v2 v3 v4 y18 v6 v7 m
  else
    if v6 = (-1) then
      kfl_sp_earliest_163 v1 v2 v3 v4 y18 v7 m
    else
      if v6 = (m.2 59) v7 then
        kfl_sp_earliest_163 v1 v2 v3 v4 y18 v7 m
      else
        some (.inr (.inl ()))
theorem dg_sp_earliest_115 (w : wX) (c : Nat → Option am_C) (N D : Nat) (bb : Nat) (v1 : Int) (v2 : Int) (v3 : Int) (v4 : Int) (v5 : Int) (v6 : Int) (v7 : Int) (u0 : Int) (q1 : R32 v1) (q2 : R32 v2) (q3 : R32 v3) (q4 : R32 v4) (q5 : R32 v5) (q6 : R32 v6) (q7 : R32 v7) (r0 : R32 u0) (m : mR) (hm : KCn m) (j : Nat → Int) (Q2 : Sum (Int × Int × Int) (Sum (Unit) (Int × Int)) → ag_Re af_T → Prop) (H1 : ∀ s j, cs_sp_earliest_9 s → PP bb w D pm_159 (hd_sp_earliest_9 c N v1 v2 v3 v4 m s j) (Q2 (.inl s))) (H2 : ∀ x j, cx_sp_earliest_9 x → PP bb w D pm_159 (ex_sp_earliest_9 c N v1 v2 v3 v4 m x j) (Q2 (.inr x))) : PP bb w D pm_159 (115, [(0, .ref 59), (1, .int (i32 v1)), (2, .int (i32 v2)), (3, .int (i32 v3)), (4, .int (i32 v4)), (5, .int (i32 v5)), (6, .int (i32 v6)), (7, .int (i32 v7)), (8, .int (i32 (j 8))), (9, .int (i32 (j 9)))], [.int (i32 u0)], (khp m c, N), 0, 0) (QS Q2 (kfl_sp_earliest_115 v1 v2 v3 v4 v5 v6 v7 u0 m)) := by
  unfold kfl_sp_earliest_115
  show PP bb w D pm_159 (115, [(0, .ref 59), (1, .int (i32 v1)), (2, .int (i32 v2)), (3, .int (i32 v3)), (4, .int (i32 v4)), (5, .int (i32 v5)), (6, .int (i32 v6)), (7, .int (i32 v7)), (8, .int (i32 (j 8))), (9, .int (i32 (j 9)))], [.int (i32 u0)], (khp (mO m [] []) c, N), 0, 0) _
  refine P_sto 117 [(9, .int (i32 u0)), (0, .ref 59), (1, .int (i32 v1)), (2, .int (i32 v2)), (3, .int (i32 v3)), (4, .int (i32 v4)), (5, .int (i32 v5)), (6, .int (i32 v6)), (7, .int (i32 v7)), (8, .int (i32 (j 8)))] rfl (fun _ => rfl) ?_
  refine P_ld 119 (.int (i32 v5)) rfl (fun _ => rfl) ?_
  refine P_ld 121 (.int (i32 u0)) rfl (fun _ => rfl) ?_
  refine P_cp1 124 61 [.int (i32 v5), .int (i32 u0)] [] rfl (fun _ => rfl) rfl (D_Math_max w m c N D hm v5 u0 q5 r0) (fun y18 h19 => ?_)
  refine P_sto 126 [(5, .int (i32 y18)), (9, .int (i32 u0)), (0, .ref 59), (1, .int (i32 v1)), (2, .int (i32 v2)), (3, .int (i32 v3)), (4, .int (i32 v4)), (6, .int (i32 v6)), (7, .int (i32 v7)), (8, .int (i32 (j 8)))] rfl (fun _ => rfl) ?_
  refine P_ld 127 (.ref 59) rfl (fun _ => rfl) ?_
  refine PK_gf 130 (.ref 70) rfl rfl kd_59 rfl rfl rfl ?_
  refine P_ld 132 (.int (i32 v7)) rfl (fun _ => rfl) ?_
  refine PK_iald2 133 62 (m.2 62) rfl rfl rfl q7 rfl ?_
  refine P_ld 134 (.ref 59) rfl (fun _ => rfl) ?_
  refine PK_gf 137 (.ref 70) rfl rfl kd_59 rfl rfl rfl ?_
  refine P_ld 138 (.int (i32 v1)) rfl (fun _ => rfl) ?_
  refine PK_iald2 139 62 (m.2 62) rfl rfl rfl q1 rfl ?_
  refine P_op 140 (and32 ((m.2 62) v7) ((m.2 62) v1)) _ rfl (fun _ => rfl) (i32_of _).symm ?_
  refine P_ifF 172 143 rfl rfl rfl t32_r rfl (fun h21 => ?_) (fun h21 => ?_)
  · skip
    refine P_lv (b := [(0, .ref 59), (1, .int (i32 v1)), (2, .int (i32 v2)), (3, .int (i32 v3)), (4, .int (i32 v4)), (5, .int (i32 y18)), (6, .int (i32 v6)), (7, .int (i32 v7)), (8, .int (i32 (j 8))), (9, .int (i32 u0))]) rfl rfl ⟨rfl, rfl, rfl, rfl, rfl, rfl, rfl, rfl, rfl, rfl, trivial⟩ ?_
    exact dg_sp_earliest_172 w c N D bb v1 v2 v3 v4 y18 v6 v7 q1 q2 q3 q4 h19 q6 q7 m hm (jk [(8, j 8), (9, u0)]) Q2 H1 H2
  · skip
    refine P_ld 145 (.int (i32 v6)) rfl (fun _ => rfl) ?_
    refine P_ld 146 (.int (i32 (-1))) rfl (fun _ => rfl) ?_
    refine P_icF 163 149 rfl rfl rfl q6 (l32 (-1) rfl) rfl (fun h22 => ?_) (fun h22 => ?_)
    · skip
      refine P_lv (b := [(0, .ref 59), (1, .int (i32 v1)), (2, .int (i32 v2)), (3, .int (i32 v3)), (4, .int (i32 v4)), (5, .int (i32 y18)), (6, .int (i32 v6)), (7, .int (i32 v7)), (8, .int (i32 (j 8))), (9, .int (i32 u0))]) rfl rfl ⟨rfl, rfl, rfl, rfl, rfl, rfl, rfl, rfl, rfl, rfl, trivial⟩ ?_
      exact dg_sp_earliest_163 w c N D bb v1 v2 v3 v4 y18 v7 q1 q2 q3 q4 h19 q7 m hm (jk [(6, v6), (8, j 8), (9, u0)]) Q2 H1 H2
    · skip
      refine P_ld 151 (.int (i32 v6)) rfl (fun _ => rfl) ?_
      refine P_ld 152 (.ref 59) rfl (fun _ => rfl) ?_
      refine PK_gf 155 (.ref 67) rfl rfl kd_59 rfl rfl rfl ?_
      refine P_ld 157 (.int (i32 v7)) rfl (fun _ => rfl) ?_
      refine PK_iald2 158 59 (m.2 59) rfl rfl rfl q7 rfl ?_
      refine P_icF 163 161 rfl rfl rfl q6 (kE_i (KCn_a hm 59) rfl _) rfl (fun h23 => ?_) (fun h23 => ?_)
      · skip
        refine P_lv (b := [(0, .ref 59), (1, .int (i32 v1)), (2, .int (i32 v2)), (3, .int (i32 v3)), (4, .int (i32 v4)), (5, .int (i32 y18)), (6, .int (i32 v6)), (7, .int (i32 v7)), (8, .int (i32 (j 8))), (9, .int (i32 u0))]) rfl rfl ⟨rfl, rfl, rfl, rfl, rfl, rfl, rfl, rfl, rfl, rfl, trivial⟩ ?_
        exact dg_sp_earliest_163 w c N D bb v1 v2 v3 v4 y18 v7 q1 q2 q3 q4 h19 q7 m hm (jk [(6, v6), (8, j 8), (9, u0)]) Q2 H1 H2
      · skip
        refine P_some ?_
        refine P_lv (b := [(0, .ref 59), (1, .int (i32 v1)), (2, .int (i32 v2)), (3, .int (i32 v3)), (4, .int (i32 v4)), (5, .int (i32 y18)), (6, .int (i32 v6)), (7, .int (i32 v7)), (8, .int (i32 (j 8))), (9, .int (i32 u0))]) rfl rfl ⟨rfl, rfl, rfl, rfl, rfl, rfl, rfl, rfl, rfl, rfl, trivial⟩ ?_
        exact H2 (.inl ()) (jk [(1, v1), (2, v2), (3, v3), (4, v4), (5, y18), (6, v6), (7, v7), (8, j 8), (9, u0)]) trivial
def kfl_sp_earliest_67 (v1 : Int) (v2 : Int) (v3 : Int) (v4 : Int) (v5 : Int) (v6 : Int) (v7 : Int) (u0 : Int) (m : mR) : Option (Sum (Int × Int × Int) (Sum (Unit) (Int × Int))) :=
  if u0 = 0 then
    bnd (kf_sp_meet_b60_b61 v7 v1 m) fun y25 =>
    if y25 = 0 then
      kfl_sp_earliest_115 v1 v2 v3 v4 v5 v6 v7 0 m
    else
      kfl_sp_earliest_115 v1 v2 v3 v4 v5 v6 v7 ((m.2 59) v7) m
  else
    kfl_sp_earliest_115 v1 v2 v3 v4 v5 v6 v7 (cut (((m.2 59) v7) + 1)) m
theorem dg_sp_earliest_67 (w : wX) (c : Nat → Option am_C) (N D : Nat) (bb : Nat) (v1 : Int) (v2 : Int) (v3 : Int) (v4 : Int) (v5 : Int) (v6 : Int) (v7 : Int) (u0 : Int) (q1 : R32 v1) (q2 : R32 v2) (q3 : R32 v3) (q4 : R32 v4) (q5 : R32 v5) (q6 : R32 v6) (q7 : R32 v7) (r0 : R32 u0) (m : mR) (hm : KCn m) (j : Nat → Int) (Q2 : Sum (Int × Int × Int) (Sum (Unit) (Int × Int)) → ag_Re af_T → Prop) (H1 : ∀ s j, cs_sp_earliest_9 s → PP bb w D pm_159 (hd_sp_earliest_9 c N v1 v2 v3 v4 m s j) (Q2 (.inl s))) (H2 : ∀ x j, cx_sp_earliest_9 x → PP bb w D pm_159 (ex_sp_earliest_9 c N v1 v2 v3 v4 m x j) (Q2 (.inr x))) : PP bb w D pm_159 (67, [(0, .ref 59), (1, .int (i32 v1)), (2, .int (i32 v2)), (3, .int (i32 v3)), (4, .int (i32 v4)), (5, .int (i32 v5)), (6, .int (i32 v6)), (7, .int (i32 v7)), (8, .int (i32 (j 8))), (9, .int (i32 (j 9)))], [.int (i32 u0)], (khp m c, N), 0, 0) (QS Q2 (kfl_sp_earliest_67 v1 v2 v3 v4 v5 v6 v7 u0 m)) := by
  unfold kfl_sp_earliest_67
  show PP bb w D pm_159 (67, [(0, .ref 59), (1, .int (i32 v1)), (2, .int (i32 v2)), (3, .int (i32 v3)), (4, .int (i32 v4)), (5, .int (i32 v5)), (6, .int (i32 v6)), (7, .int (i32 v7)), (8, .int (i32 (j 8))), (9, .int (i32 (j 9)))], [.int (i32 u0)], (khp (mO m [] []) c, N), 0, 0) _
  refine P_sto 69 [(8, .int (i32 u0)), (0, .ref 59), (1, .int (i32 v1)), (2, .int (i32 v2)), (3, .int (i32 v3)), (4, .int (i32 v4)), (5, .int (i32 v5)), (6, .int (i32 v6)), (7, .int (i32 v7)), (9, .int (i32 (j 9)))] rfl (fun _ => rfl) ?_
  refine P_ld 71 (.int (i32 u0)) rfl (fun _ => rfl) ?_
  refine P_ifF 86 74 rfl rfl rfl r0 rfl (fun h24 => ?_) (fun h24 => ?_)
  · skip
    refine P_ld 87 (.ref 59) rfl (fun _ => rfl) ?_
    refine P_ld 88 (.ref 59) rfl (fun _ => rfl) ?_
    refine PK_gf 91 (.ref 68) rfl rfl kd_59 rfl rfl rfl ?_
    refine P_ld 93 (.int (i32 v7)) rfl (fun _ => rfl) ?_
    refine P_ld 94 (.ref 59) rfl (fun _ => rfl) ?_
    refine PK_gf 97 (.ref 69) rfl rfl kd_59 rfl rfl rfl ?_
    refine P_ld 98 (.int (i32 v1)) rfl (fun _ => rfl) ?_
    refine P_cp1 101 160 [.ref 59, .ref 68, .int (i32 v7), .ref 69, .int (i32 v1)] [] rfl (fun _ => rfl) rfl (D_sp_meet_b60_b61 w m c N D hm v7 v1 q7 q1) (fun y25 h26 => ?_)
    refine P_ifF 114 104 rfl rfl rfl h26 rfl (fun h28 => ?_) (fun h28 => ?_)
    · skip
      refine P_ld 115 (.int (i32 0)) rfl (fun _ => rfl) ?_
      refine P_lv (b := [(0, .ref 59), (1, .int (i32 v1)), (2, .int (i32 v2)), (3, .int (i32 v3)), (4, .int (i32 v4)), (5, .int (i32 v5)), (6, .int (i32 v6)), (7, .int (i32 v7)), (8, .int (i32 u0)), (9, .int (i32 (j 9)))]) rfl rfl ⟨rfl, rfl, rfl, rfl, rfl, rfl, rfl, rfl, rfl, rfl, trivial⟩ ?_
      exact dg_sp_earliest_115 w c N D bb v1 v2 v3 v4 v5 v6 v7 0 q1 q2 q3 q4 q5 q6 q7 (l32 0 rfl) m hm (jk [(8, u0), (9, j 9)]) Q2 H1 H2
    · skip
      refine P_ld 105 (.ref 59) rfl (fun _ => rfl) ?_
      refine PK_gf 108 (.ref 67) rfl rfl kd_59 rfl rfl rfl ?_
      refine P_ld 110 (.int (i32 v7)) rfl (fun _ => rfl) ?_
      refine PK_iald2 111 59 (m.2 59) rfl rfl rfl q7 rfl ?_
      refine P_goto 115 rfl (fun _ => rfl) ?_
      refine P_lv (b := [(0, .ref 59), (1, .int (i32 v1)), (2, .int (i32 v2)), (3, .int (i32 v3)), (4, .int (i32 v4)), (5, .int (i32 v5)), (6, .int (i32 v6)), (7, .int (i32 v7)), (8, .int (i32 u0)), (9, .int (i32 (j 9)))]) rfl rfl ⟨rfl, rfl, rfl, rfl, rfl, rfl, rfl, rfl, rfl, rfl, trivial⟩ ?_
      exact dg_sp_earliest_115 w c N D bb v1 v2 v3 v4 v5 v6 v7 ((m.2 59) v7) q1 q2 q3 q4 q5 q6 q7 (kE_i (KCn_a hm 59) rfl _) m hm (jk [(8, u0), (9, j 9)]) Q2 H1 H2
  · skip
    refine P_ld 75 (.ref 59) rfl (fun _ => rfl) ?_
    refine PK_gf 78 (.ref 67) rfl rfl kd_59 rfl rfl rfl ?_
    refine P_ld 80 (.int (i32 v7)) rfl (fun _ => rfl) ?_
    refine PK_iald2 81 59 (m.2 59) rfl rfl rfl q7 rfl ?_
    refine P_ld 82 (.int (i32 1)) rfl (fun _ => rfl) ?_
    refine P_op 83 (cut (((m.2 59) v7) + 1)) _ rfl (fun _ => rfl) o_add ?_
    refine P_goto 115 rfl (fun _ => rfl) ?_
    refine P_lv (b := [(0, .ref 59), (1, .int (i32 v1)), (2, .int (i32 v2)), (3, .int (i32 v3)), (4, .int (i32 v4)), (5, .int (i32 v5)), (6, .int (i32 v6)), (7, .int (i32 v7)), (8, .int (i32 u0)), (9, .int (i32 (j 9)))]) rfl rfl ⟨rfl, rfl, rfl, rfl, rfl, rfl, rfl, rfl, rfl, rfl, trivial⟩ ?_
    exact dg_sp_earliest_115 w c N D bb v1 v2 v3 v4 v5 v6 v7 (cut (((m.2 59) v7) + 1)) q1 q2 q3 q4 q5 q6 q7 cut_r m hm (jk [(8, u0), (9, j 9)]) Q2 H1 H2
def kfl_sp_earliest_62 (v1 : Int) (v2 : Int) (v3 : Int) (v4 : Int) (v5 : Int) (v6 : Int) (v7 : Int) (m : mR) : Option (Sum (Int × Int × Int) (Sum (Unit) (Int × Int))) :=
  kfl_sp_earliest_67 v1 v2 v3 v4 v5 v6 v7 1 m
theorem dg_sp_earliest_62 (w : wX) (c : Nat → Option am_C) (N D : Nat) (bb : Nat) (v1 : Int) (v2 : Int) (v3 : Int) (v4 : Int) (v5 : Int) (v6 : Int) (v7 : Int) (q1 : R32 v1) (q2 : R32 v2) (q3 : R32 v3) (q4 : R32 v4) (q5 : R32 v5) (q6 : R32 v6) (q7 : R32 v7) (m : mR) (hm : KCn m) (j : Nat → Int) (Q2 : Sum (Int × Int × Int) (Sum (Unit) (Int × Int)) → ag_Re af_T → Prop) (H1 : ∀ s j, cs_sp_earliest_9 s → PP bb w D pm_159 (hd_sp_earliest_9 c N v1 v2 v3 v4 m s j) (Q2 (.inl s))) (H2 : ∀ x j, cx_sp_earliest_9 x → PP bb w D pm_159 (ex_sp_earliest_9 c N v1 v2 v3 v4 m x j) (Q2 (.inr x))) : PP bb w D pm_159 (62, [(0, .ref 59), (1, .int (i32 v1)), (2, .int (i32 v2)), (3, .int (i32 v3)), (4, .int (i32 v4)), (5, .int (i32 v5)), (6, .int (i32 v6)), (7, .int (i32 v7)), (8, .int (i32 (j 8))), (9, .int (i32 (j 9)))], [], (khp m c, N), 0, 0) (QS Q2 (kfl_sp_earliest_62 v1 v2 v3 v4 v5 v6 v7 m)) := by
  unfold kfl_sp_earliest_62
  show PP bb w D pm_159 (62, [(0, .ref 59), (1, .int (i32 v1)), (2, .int (i32 v2)), (3, .int (i32 v3)), (4, .int (i32 v4)), (5, .int (i32 v5)), (6, .int (i32 v6)), (7, .int (i32 v7)), (8, .int (i32 (j 8))), (9, .int (i32 (j 9)))], [], (khp (mO m [] []) c, N), 0, 0) _
  refine P_ld 63 (.int (i32 1)) rfl (fun _ => rfl) ?_
  refine P_goto 67 rfl (fun _ => rfl) ?_
  exact dg_sp_earliest_67 w c N D bb v1 v2 v3 v4 v5 v6 v7 1 q1 q2 q3 q4 q5 q6 q7 (l32 1 rfl) m hm (jk [(8, j 8), (9, j 9)]) Q2 H1 H2
def kfb_sp_earliest_9 (v1 : Int) (v2 : Int) (v3 : Int) (v4 : Int) (m : mR) (s : Int × Int × Int) : Option (Sum (Int × Int × Int) (Sum (Unit) (Int × Int))) :=
  if v1 ≤ s.2.2 then
    some (.inr (.inr (s.1, s.2.1)))
  else
    bnd (kf_sp_meet_b61_b60 s.2.2 v1 m) fun y32 =>
    if y32 = 0 then
      bnd (kf_sp_meet_b61_b61 s.2.2 v1 m) fun y36 =>
      if y36 = 0 then
        if (m.2 53) v1 = s.2.2 then
          kfl_sp_earliest_62 v1 v2 v3 v4 s.1 s.2.1 s.2.2 m
        else
          kfl_sp_earliest_67 v1 v2 v3 v4 s.1 s.2.1 s.2.2 0 m
      else
        kfl_sp_earliest_62 v1 v2 v3 v4 s.1 s.2.1 s.2.2 m
    else
      kfl_sp_earliest_62 v1 v2 v3 v4 s.1 s.2.1 s.2.2 m
theorem dh_sp_earliest_9 (w : wX) (c : Nat → Option am_C) (N D : Nat) (v1 : Int) (v2 : Int) (v3 : Int) (v4 : Int) (q1 : R32 v1) (q2 : R32 v2) (q3 : R32 v3) (q4 : R32 v4) (m : mR) (hm : KCn m) (bb : Nat) (Q2 : Sum (Int × Int × Int) (Sum (Unit) (Int × Int)) → ag_Re af_T → Prop) (H1 : ∀ s j, cs_sp_earliest_9 s → PP bb w D pm_159 (hd_sp_earliest_9 c N v1 v2 v3 v4 m s j) (Q2 (.inl s))) (H2 : ∀ x j, cx_sp_earliest_9 x → PP bb w D pm_159 (ex_sp_earliest_9 c N v1 v2 v3 v4 m x j) (Q2 (.inr x))) (s : Int × Int × Int) (j : Nat → Int) (hs : cs_sp_earliest_9 s) : PP (bb + 1) w D pm_159 (hd_sp_earliest_9 c N v1 v2 v3 v4 m s j) (QS Q2 (kfb_sp_earliest_9 v1 v2 v3 v4 m s)) := by
  obtain ⟨g5, g6, g7⟩ := hs
  unfold kfb_sp_earliest_9
  show PP (bb + 1) w D pm_159 (9, [(0, .ref 59), (1, .int (i32 v1)), (2, .int (i32 v2)), (3, .int (i32 v3)), (4, .int (i32 v4)), (5, .int (i32 s.1)), (6, .int (i32 s.2.1)), (7, .int (i32 s.2.2)), (8, .int (i32 (j 8))), (9, .int (i32 (j 9)))], [], (khp (mO m [] []) c, N), 0, 0) _
  refine P1_ld 11 (.int (i32 s.2.2)) rfl (fun _ => rfl) ?_
  refine P_ld 12 (.int (i32 v1)) rfl (fun _ => rfl) ?_
  refine P_icF 178 15 rfl rfl rfl g7 q1 rfl (fun h31 => ?_) (fun h31 => ?_)
  · skip
    refine P_some ?_
    exact H2 (.inr (s.1, s.2.1)) (jk [(1, v1), (7, s.2.2), (8, j 8), (9, j 9)]) ⟨g5, g6⟩
  · skip
    refine P_ld 16 (.ref 59) rfl (fun _ => rfl) ?_
    refine P_ld 17 (.ref 59) rfl (fun _ => rfl) ?_
    refine PK_gf 20 (.ref 69) rfl rfl kd_59 rfl rfl rfl ?_
    refine P_ld 22 (.int (i32 s.2.2)) rfl (fun _ => rfl) ?_
    refine P_ld 23 (.ref 59) rfl (fun _ => rfl) ?_
    refine PK_gf 26 (.ref 68) rfl rfl kd_59 rfl rfl rfl ?_
    refine P_ld 27 (.int (i32 v1)) rfl (fun _ => rfl) ?_
    refine P_cp1 30 160 [.ref 59, .ref 69, .int (i32 s.2.2), .ref 68, .int (i32 v1)] [] rfl (fun _ => rfl) rfl (D_sp_meet_b61_b60 w m c N D hm s.2.2 v1 g7 q1) (fun y32 h33 => ?_)
    refine P_ifE 62 33 rfl rfl rfl h33 rfl (fun h35 => ?_) (fun h35 => ?_)
    · skip
      refine P_ld 34 (.ref 59) rfl (fun _ => rfl) ?_
      refine P_ld 35 (.ref 59) rfl (fun _ => rfl) ?_
      refine PK_gf 38 (.ref 69) rfl rfl kd_59 rfl rfl rfl ?_
      refine P_ld 40 (.int (i32 s.2.2)) rfl (fun _ => rfl) ?_
      refine P_ld 41 (.ref 59) rfl (fun _ => rfl) ?_
      refine PK_gf 44 (.ref 69) rfl rfl kd_59 rfl rfl rfl ?_
      refine P_ld 45 (.int (i32 v1)) rfl (fun _ => rfl) ?_
      refine P_cp1 48 160 [.ref 59, .ref 69, .int (i32 s.2.2), .ref 69, .int (i32 v1)] [] rfl (fun _ => rfl) rfl (D_sp_meet_b61_b61 w m c N D hm s.2.2 v1 g7 q1) (fun y36 h37 => ?_)
      refine P_ifE 62 51 rfl rfl rfl h37 rfl (fun h39 => ?_) (fun h39 => ?_)
      · skip
        refine P_ld 52 (.ref 59) rfl (fun _ => rfl) ?_
        refine PK_gf 55 (.ref 61) rfl rfl kd_59 rfl rfl rfl ?_
        refine P_ld 56 (.int (i32 v1)) rfl (fun _ => rfl) ?_
        refine PK_iald2 57 53 (m.2 53) rfl rfl rfl q1 rfl ?_
        refine P_ld 59 (.int (i32 s.2.2)) rfl (fun _ => rfl) ?_
        refine P_icE 66 62 rfl rfl rfl (kE_i (KCn_a hm 53) rfl _) g7 rfl (fun h40 => ?_) (fun h40 => ?_)
        · skip
          exact dg_sp_earliest_62 w c N D bb v1 v2 v3 v4 s.1 s.2.1 s.2.2 q1 q2 q3 q4 g5 g6 g7 m hm (jk [(8, j 8), (9, j 9)]) Q2 H1 H2
        · skip
          refine P_ld 67 (.int (i32 0)) rfl (fun _ => rfl) ?_
          exact dg_sp_earliest_67 w c N D bb v1 v2 v3 v4 s.1 s.2.1 s.2.2 0 q1 q2 q3 q4 g5 g6 g7 (l32 0 rfl) m hm (jk [(8, j 8), (9, j 9)]) Q2 H1 H2
      · skip
        exact dg_sp_earliest_62 w c N D bb v1 v2 v3 v4 s.1 s.2.1 s.2.2 q1 q2 q3 q4 g5 g6 g7 m hm (jk [(8, j 8), (9, j 9)]) Q2 H1 H2
    · skip
      exact dg_sp_earliest_62 w c N D bb v1 v2 v3 v4 s.1 s.2.1 s.2.2 q1 q2 q3 q4 g5 g6 g7 m hm (jk [(8, j 8), (9, j 9)]) Q2 H1 H2
def kf_sp_earliest (v1 : Int) (v2 : Int) (v3 : Int) (v4 : Int) (m : mR) : Option Int :=
  bnd (whl (kfb_sp_earliest_9 v1 v2 v3 v4 m) (0, (-1), 0)) (sel
    (fun e41 : Unit =>
      some (-1))
    (fun e43 : Int × Int =>
      kfl_sp_earliest_178 v2 v3 v4 e43.1 e43.2 m))
theorem D_sp_earliest (w : wX) (m : mR) (c : Nat → Option am_C) (N D : Nat) (hm : KCn m) (v1 : Int) (v2 : Int) (v3 : Int) (v4 : Int) (q1 : R32 v1) (q2 : R32 v2) (q3 : R32 v3) (q4 : R32 v4) : PC w D 159 [.ref 59, .int (i32 v1), .int (i32 v2), .int (i32 v3), .int (i32 v4)] (khp m c, N) (QS (FP1 (khp m c, N)) (kf_sp_earliest v1 v2 v3 v4 m)) := by
  refine Pc_of (fun D bb => ?_) D
  unfold kf_sp_earliest
  show PP bb w D pm_159 (0, [(0, .ref 59), (1, .int (i32 v1)), (2, .int (i32 v2)), (3, .int (i32 v3)), (4, .int (i32 v4))], [], (khp (mO m [] []) c, N), 0, 0) _
  refine P_ld 1 (.int (i32 0)) rfl (fun _ => rfl) ?_
  refine P_sto 3 [(5, .int (i32 0)), (0, .ref 59), (1, .int (i32 v1)), (2, .int (i32 v2)), (3, .int (i32 v3)), (4, .int (i32 v4))] rfl (fun _ => rfl) ?_
  refine P_ld 4 (.int (i32 (-1))) rfl (fun _ => rfl) ?_
  refine P_sto 6 [(6, .int (i32 (-1))), (5, .int (i32 0)), (0, .ref 59), (1, .int (i32 v1)), (2, .int (i32 v2)), (3, .int (i32 v3)), (4, .int (i32 v4))] rfl (fun _ => rfl) ?_
  refine P_ld 7 (.int (i32 0)) rfl (fun _ => rfl) ?_
  refine P_sto 9 [(7, .int (i32 0)), (6, .int (i32 (-1))), (5, .int (i32 0)), (0, .ref 59), (1, .int (i32 v1)), (2, .int (i32 v2)), (3, .int (i32 v3)), (4, .int (i32 v4))] rfl (fun _ => rfl) ?_
  refine P_lv (b := [(0, .ref 59), (1, .int (i32 v1)), (2, .int (i32 v2)), (3, .int (i32 v3)), (4, .int (i32 v4)), (5, .int (i32 0)), (6, .int (i32 (-1))), (7, .int (i32 0)), (8, .int (i32 0)), (9, .int (i32 0))]) rfl rfl ⟨rfl, rfl, rfl, rfl, rfl, rfl, rfl, rfl, trivial⟩ ?_
  refine P_bnd ?_
  refine P_whl (fun bb Q2 H1 H2 s9 j9 hs9 => dh_sp_earliest_9 w c N D v1 v2 v3 v4 q1 q2 q3 q4 m hm bb Q2 H1 H2 s9 j9 hs9) bb (fun x0 j hx0 => ?_) (0, (-1), 0) (jk []) ⟨(l32 0 rfl), (l32 (-1) rfl), (l32 0 rfl)⟩
  cases x0 with
  | inl e41 =>
    have q42 := hx0
    show PP bb w D pm_159 (161, [(0, .ref 59), (1, .int (i32 (j 1))), (2, .int (i32 (j 2))), (3, .int (i32 (j 3))), (4, .int (i32 (j 4))), (5, .int (i32 (j 5))), (6, .int (i32 (j 6))), (7, .int (i32 (j 7))), (8, .int (i32 (j 8))), (9, .int (i32 (j 9)))], [], (khp (mO m [] []) c, N), 0, 0) (QS _ (some (-1)))
    refine P_ld 162 (.int (i32 (-1))) rfl (fun _ => rfl) ?_
    exact P_rp1 rfl (l32 (-1) rfl)
  | inr e43 =>
    have q44 := hx0
    obtain ⟨q45, q46⟩ := q44
    show PP bb w D pm_159 (178, [(0, .ref 59), (1, .int (i32 (j 1))), (2, .int (i32 v2)), (3, .int (i32 v3)), (4, .int (i32 v4)), (5, .int (i32 e43.1)), (6, .int (i32 e43.2)), (7, .int (i32 (j 7))), (8, .int (i32 (j 8))), (9, .int (i32 (j 9)))], [], (khp (mO m [] []) c, N), 0, 0) (QS _ (kfl_sp_earliest_178 v2 v3 v4 e43.1 e43.2 m))
    exact dg_sp_earliest_178 w c N D bb v2 v3 v4 e43.1 e43.2 q2 q3 q4 q45 q46 m hm (jk [(1, j 1), (7, j 7), (8, j 8), (9, j 9)])
end X28R
