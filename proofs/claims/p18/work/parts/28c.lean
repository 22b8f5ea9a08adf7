noncomputable section X28C
def cs_StringLatin1_indexOfChar_b10008_7 (s : Int) : Prop := R32 s
def cx_StringLatin1_indexOfChar_b10008_7 : (Sum (Int) (Unit)) → Prop := (sel (fun (e : Int) => R32 e) (fun (e : Unit) => True))
def hd_StringLatin1_indexOfChar_b10008_7 (c : Nat → Option am_C) (N : Nat) (v3 : Int) (v4 : Int) (m : mR) (s : Int) (j : Nat → Int) : ag_St af_T := (7, [(0, .ref 1000018), (1, .int (i32 (j 1))), (2, .int (i32 (j 2))), (3, .int (i32 v3)), (4, .int (i32 v4)), (5, .int (i32 s))], [], (khp m c, N), 0, 0)
def ex_StringLatin1_indexOfChar_b10008_7 (c : Nat → Option am_C) (N : Nat) (v3 : Int) (v4 : Int) (m : mR) : (Sum (Int) (Unit)) → (Nat → Int) → ag_St af_T := (sel (fun (e : Int) (j : Nat → Int) => ((22, [(0, .ref 1000018), (1, .int (i32 (j 1))), (2, .int (i32 (j 2))), (3, .int (i32 (j 3))), (4, .int (i32 (j 4))), (5, .int (i32 e))], [], (khp m c, N), 0, 0) : ag_St af_T)) (fun (e : Unit) (j : Nat → Int) => ((31, [(0, .ref 1000018), (1, .int (i32 (j 1))), (2, .int (i32 (j 2))), (3, .int (i32 (j 3))), (4, .int (i32 (j 4))), (5, .int (i32 (j 5)))], [], (khp m c, N), 0, 0) : ag_St af_T)))
def kfb_StringLatin1_indexOfChar_b10008_7 (v3 : Int) (v4 : Int) (m : mR) (s : Int) : Option (Sum (Int) (Sum (Int) (Unit))) :=
  if v3 ≤ s then
    some (.inr (.inr ()))
  else
    if chr 8 s = v4 then
      some (.inr (.inl s))
    else
      some (.inl (cut (s + 1)))
theorem dh_StringLatin1_indexOfChar_b10008_7 (w : wX) (c : Nat → Option am_C) (N D : Nat) (v3 : Int) (v4 : Int) (q3 : R32 v3) (q4 : R32 v4) (m : mR) (hm : KCn m) (bb : Nat) (Q2 : Sum (Int) (Sum (Int) (Unit)) → ag_Re af_T → Prop) (H1 : ∀ s j, cs_StringLatin1_indexOfChar_b10008_7 s → PP bb w D pm_63 (hd_StringLatin1_indexOfChar_b10008_7 c N v3 v4 m s j) (Q2 (.inl s))) (H2 : ∀ x j, cx_StringLatin1_indexOfChar_b10008_7 x → PP bb w D pm_63 (ex_StringLatin1_indexOfChar_b10008_7 c N v3 v4 m x j) (Q2 (.inr x))) (s : Int) (j : Nat → Int) (hs : cs_StringLatin1_indexOfChar_b10008_7 s) : PP (bb + 1) w D pm_63 (hd_StringLatin1_indexOfChar_b10008_7 c N v3 v4 m s j) (QS Q2 (kfb_StringLatin1_indexOfChar_b10008_7 v3 v4 m s)) := by
  have g5 := hs
  unfold kfb_StringLatin1_indexOfChar_b10008_7
  show PP (bb + 1) w D pm_63 (7, [(0, .ref 1000018), (1, .int (i32 (j 1))), (2, .int (i32 (j 2))), (3, .int (i32 v3)), (4, .int (i32 v4)), (5, .int (i32 s))], [], (khp (mO m [] []) c, N), 0, 0) _
  refine P1_ld 9 (.int (i32 s)) rfl (fun _ => rfl) ?_
  refine P_ld 10 (.int (i32 v3)) rfl (fun _ => rfl) ?_
  refine P_icF 31 13 rfl rfl rfl g5 q3 rfl (fun h3 => ?_) (fun h3 => ?_)
  · skip
    refine P_some ?_
    exact H2 (.inr ()) (jk [(1, j 1), (2, j 2), (3, v3), (4, v4), (5, s)]) trivial
  · skip
    refine P_ld 14 (.ref 1000018) rfl (fun _ => rfl) ?_
    refine P_ld 16 (.int (i32 s)) rfl (fun _ => rfl) ?_
    refine P_xbald 17 8 6 rfl rfl rfl g5 ?_
    refine P_ld 19 (.int (i32 v4)) rfl (fun _ => rfl) ?_
    refine P_icE 25 22 rfl rfl rfl chr_r q4 rfl (fun h4 => ?_) (fun h4 => ?_)
    · skip
      refine P_some ?_
      exact H2 (.inl s) (jk [(1, j 1), (2, j 2), (3, v3), (4, v4)]) g5
    · skip
      refine P_inc 28 [(5, .int (i32 (cut (s + 1)))), (0, .ref 1000018), (1, .int (i32 (j 1))), (2, .int (i32 (j 2))), (3, .int (i32 v3)), (4, .int (i32 v4))] rfl rfl (by decide) rfl rfl ?_
      refine P_goto 7 rfl (fun _ => rfl) ?_
      refine P_some ?_
      refine P_lv (b := [(0, .ref 1000018), (1, .int (i32 (j 1))), (2, .int (i32 (j 2))), (3, .int (i32 v3)), (4, .int (i32 v4)), (5, .int (i32 (cut (s + 1))))]) rfl rfl ⟨rfl, rfl, rfl, rfl, rfl, rfl, trivial⟩ ?_
      exact H1 (cut (s + 1)) (jk [(1, j 1), (2, j 2)]) cut_r
def kf_StringLatin1_indexOfChar_b10008 (v1 : Int) (v2 : Int) (v3 : Int) (m : mR) : Option Int :=
  bnd (whl (kfb_StringLatin1_indexOfChar_b10008_7 v3 (i2b32 v1) m) v2) (sel
    (fun e5 : Int =>
      some e5)
    (fun e8 : Unit =>
      some (-1)))
theorem D_StringLatin1_indexOfChar_b10008 (w : wX) (m : mR) (c : Nat → Option am_C) (N D : Nat) (hm : KCn m) (v1 : Int) (v2 : Int) (v3 : Int) (q1 : R32 v1) (q2 : R32 v2) (q3 : R32 v3) : PC w D 63 [.ref 1000018, .int (i32 v1), .int (i32 v2), .int (i32 v3)] (khp m c, N) (QS (FP1 (khp m c, N)) (kf_StringLatin1_indexOfChar_b10008 v1 v2 v3 m)) := by
  refine Pc_of (fun D bb => ?_) D
  unfold kf_StringLatin1_indexOfChar_b10008
  show PP bb w D pm_63 (0, [(0, .ref 1000018), (1, .int (i32 v1)), (2, .int (i32 v2)), (3, .int (i32 v3))], [], (khp (mO m [] []) c, N), 0, 0) _
  refine P_ld 1 (.int (i32 v1)) rfl (fun _ => rfl) ?_
  refine P_op 2 (i2b32 v1) _ rfl (fun _ => rfl) (i32_of _).symm ?_
  refine P_sto 4 [(4, .int (i32 (i2b32 v1))), (0, .ref 1000018), (1, .int (i32 v1)), (2, .int (i32 v2)), (3, .int (i32 v3))] rfl (fun _ => rfl) ?_
  refine P_ld 5 (.int (i32 v2)) rfl (fun _ => rfl) ?_
  refine P_sto 7 [(5, .int (i32 v2)), (4, .int (i32 (i2b32 v1))), (0, .ref 1000018), (1, .int (i32 v1)), (2, .int (i32 v2)), (3, .int (i32 v3))] rfl (fun _ => rfl) ?_
  refine P_lv (b := [(0, .ref 1000018), (1, .int (i32 v1)), (2, .int (i32 v2)), (3, .int (i32 v3)), (4, .int (i32 (i2b32 v1))), (5, .int (i32 v2))]) rfl rfl ⟨rfl, rfl, rfl, rfl, rfl, rfl, trivial⟩ ?_
  refine P_bnd ?_
  refine P_whl (fun bb Q2 H1 H2 s9 j9 hs9 => dh_StringLatin1_indexOfChar_b10008_7 w c N D v3 (i2b32 v1) q3 t32_r m hm bb Q2 H1 H2 s9 j9 hs9) bb (fun x0 j hx0 => ?_) v2 (jk [(1, v1), (2, v2)]) q2
  cases x0 with
  | inl e5 =>
    have q6 := hx0
    have q7 := q6
    show PP bb w D pm_63 (22, [(0, .ref 1000018), (1, .int (i32 (j 1))), (2, .int (i32 (j 2))), (3, .int (i32 (j 3))), (4, .int (i32 (j 4))), (5, .int (i32 e5))], [], (khp (mO m [] []) c, N), 0, 0) (QS _ (some e5))
    refine P_ld 24 (.int (i32 e5)) rfl (fun _ => rfl) ?_
    exact P_rp1 rfl q7
  | inr e8 =>
    have q9 := hx0
    show PP bb w D pm_63 (31, [(0, .ref 1000018), (1, .int (i32 (j 1))), (2, .int (i32 (j 2))), (3, .int (i32 (j 3))), (4, .int (i32 (j 4))), (5, .int (i32 (j 5)))], [], (khp (mO m [] []) c, N), 0, 0) (QS _ (some (-1)))
    refine P_ld 32 (.int (i32 (-1))) rfl (fun _ => rfl) ?_
    exact P_rp1 rfl (l32 (-1) rfl)
def kf_StringLatin1_indexOf_b10008 (v1 : Int) (v2 : Int) (v3 : Int) (m : mR) : Option Int :=
  bnd (kf_StringLatin1_canEncode v1 m) fun y1 =>
  if y1 = 0 then
    some (-1)
  else
    bnd (kf_Math_max v2 0 m) fun y5 =>
    bnd (kf_Math_min v3 6 m) fun y8 =>
    if y5 < y8 then
      bnd (kf_StringLatin1_indexOfChar_b10008 v1 y5 y8 m) fun y12 =>
      some y12
    else
      some (-1)
theorem D_StringLatin1_indexOf_b10008 (w : wX) (m : mR) (c : Nat → Option am_C) (N D : Nat) (hm : KCn m) (v1 : Int) (v2 : Int) (v3 : Int) (q1 : R32 v1) (q2 : R32 v2) (q3 : R32 v3) : PC w D 59 [.ref 1000018, .int (i32 v1), .int (i32 v2), .int (i32 v3)] (khp m c, N) (QS (FP1 (khp m c, N)) (kf_StringLatin1_indexOf_b10008 v1 v2 v3 m)) := by
  refine Pc_of (fun D bb => ?_) D
  unfold kf_StringLatin1_indexOf_b10008
  show PP bb w D pm_59 (0, [(0, .ref 1000018), (1, .int (i32 v1)), (2, .int (i32 v2)), (3, .int (i32 v3))], [], (khp (mO m [] []) c, N), 0, 0) _
  refine P_ld 1 (.int (i32 v1)) rfl (fun _ => rfl) ?_
  refine P_cp1 4 60 [.int (i32 v1)] [] rfl (fun _ => rfl) rfl (D_StringLatin1_canEncode w m c N D hm v1 q1) (fun y1 h2 => ?_)
  refine P_ifE 9 7 rfl rfl rfl h2 rfl (fun h4 => ?_) (fun h4 => ?_)
  · skip
    refine P_ld 8 (.int (i32 (-1))) rfl (fun _ => rfl) ?_
    exact P_rp1 rfl (l32 (-1) rfl)
  · skip
    refine P_ld 10 (.int (i32 v2)) rfl (fun _ => rfl) ?_
    refine P_ld 11 (.int (i32 0)) rfl (fun _ => rfl) ?_
    refine P_cp1 14 61 [.int (i32 v2), .int (i32 0)] [] rfl (fun _ => rfl) rfl (D_Math_max w m c N D hm v2 0 q2 (l32 0 rfl)) (fun y5 h6 => ?_)
    refine P_sto 15 [(2, .int (i32 y5)), (0, .ref 1000018), (1, .int (i32 v1)), (3, .int (i32 v3))] rfl (fun _ => rfl) ?_
    refine P_ld 16 (.int (i32 v3)) rfl (fun _ => rfl) ?_
    refine P_ld 17 (.ref 1000018) rfl (fun _ => rfl) ?_
    refine P_ld1 18 (.int (i32 6)) rfl (fun _ => rfl) ?_
    refine P_cp1 21 62 [.int (i32 v3), .int (i32 6)] [] rfl (fun _ => rfl) rfl (D_Math_min w m c N D hm v3 6 q3 (l32 6 rfl)) (fun y8 h9 => ?_)
    refine P_sto 22 [(3, .int (i32 y8)), (2, .int (i32 y5)), (0, .ref 1000018), (1, .int (i32 v1))] rfl (fun _ => rfl) ?_
    refine P_ld 23 (.int (i32 y5)) rfl (fun _ => rfl) ?_
    refine P_ld 24 (.int (i32 y8)) rfl (fun _ => rfl) ?_
    refine P_icF 29 27 rfl rfl rfl h6 h9 rfl (fun h11 => ?_) (fun h11 => ?_)
    · skip
      refine P_ld 30 (.ref 1000018) rfl (fun _ => rfl) ?_
      refine P_ld 31 (.int (i32 v1)) rfl (fun _ => rfl) ?_
      refine P_ld 32 (.int (i32 y5)) rfl (fun _ => rfl) ?_
      refine P_ld 33 (.int (i32 y8)) rfl (fun _ => rfl) ?_
      refine P_cp1 36 63 [.ref 1000018, .int (i32 v1), .int (i32 y5), .int (i32 y8)] [] rfl (fun _ => rfl) rfl (D_StringLatin1_indexOfChar_b10008 w m c N D hm v1 y5 y8 q1 h6 h9) (fun y12 h13 => ?_)
      exact P_rp1 rfl h13
    · skip
      refine P_ld 28 (.int (i32 (-1))) rfl (fun _ => rfl) ?_
      exact P_rp1 rfl (l32 (-1) rfl)
def kf_String_indexOf1_b20008 (v1 : Int) (v2 : Int) (m : mR) : Option Int :=
  bnd (kf_String_length_b20008 m) fun y2 =>
  bnd (kf_StringLatin1_indexOf_b10008 v1 v2 y2 m) fun y5 =>
  some y5
theorem D_String_indexOf1_b20008 (w : wX) (m : mR) (c : Nat → Option am_C) (N D : Nat) (hm : KCn m) (v1 : Int) (v2 : Int) (q1 : R32 v1) (q2 : R32 v2) : PC w D 58 [.ref 1000017, .int (i32 v1), .int (i32 v2)] (khp m c, N) (QS (FP1 (khp m c, N)) (kf_String_indexOf1_b20008 v1 v2 m)) := by
  refine Pc_of (fun D bb => ?_) D
  unfold kf_String_indexOf1_b20008
  show PP bb w D pm_58 (0, [(0, .ref 1000017), (1, .int (i32 v1)), (2, .int (i32 v2))], [], (khp (mO m [] []) c, N), 0, 0) _
  refine P_ld 1 (.ref 1000017) rfl (fun _ => rfl) ?_
  refine P_cq1 4 6 [.ref 1000017] [] 1 rfl (fun _ => rfl) rfl (D_String_isLatin1_b20008 w m c N D hm) rfl ?_
  refine P_ifN 23 7 rfl rfl rfl (l32 1 rfl) (by unfold cz; decide) ?_
  refine P_ld 8 (.ref 1000017) rfl (fun _ => rfl) ?_
  refine P_ld1 11 (.ref 1000018) rfl (fun _ => rfl) ?_
  refine P_ld 12 (.int (i32 v1)) rfl (fun _ => rfl) ?_
  refine P_ld 13 (.int (i32 v2)) rfl (fun _ => rfl) ?_
  refine P_ld 14 (.ref 1000017) rfl (fun _ => rfl) ?_
  refine P_cp1 17 3 [.ref 1000017] [.int (i32 v2), .int (i32 v1), .ref 1000018] rfl (fun _ => rfl) rfl (D_String_length_b20008 w m c N D hm) (fun y2 h3 => ?_)
  refine P_cp1 20 59 [.ref 1000018, .int (i32 v1), .int (i32 v2), .int (i32 y2)] [] rfl (fun _ => rfl) rfl (D_StringLatin1_indexOf_b10008 w m c N D hm v1 v2 y2 q1 q2 h3) (fun y5 h6 => ?_)
  refine P_goto 36 rfl (fun _ => rfl) ?_
  exact P_rp1 rfl h6
def kf_String_indexOf0_b20008 (v1 : Int) (m : mR) : Option Int :=
  bnd (kf_String_indexOf1_b20008 v1 0 m) fun y1 =>
  some y1
theorem D_String_indexOf0_b20008 (w : wX) (m : mR) (c : Nat → Option am_C) (N D : Nat) (hm : KCn m) (v1 : Int) (q1 : R32 v1) : PC w D 57 [.ref 1000017, .int (i32 v1)] (khp m c, N) (QS (FP1 (khp m c, N)) (kf_String_indexOf0_b20008 v1 m)) := by
  refine Pc_of (fun D bb => ?_) D
  unfold kf_String_indexOf0_b20008
  show PP bb w D pm_57 (0, [(0, .ref 1000017), (1, .int (i32 v1))], [], (khp (mO m [] []) c, N), 0, 0) _
  refine P_ld 1 (.ref 1000017) rfl (fun _ => rfl) ?_
  refine P_ld 2 (.int (i32 v1)) rfl (fun _ => rfl) ?_
  refine P_ld 3 (.int (i32 0)) rfl (fun _ => rfl) ?_
  refine P_cp1 6 58 [.ref 1000017, .int (i32 v1), .int (i32 0)] [] rfl (fun _ => rfl) rfl (D_String_indexOf1_b20008 w m c N D hm v1 0 q1 (l32 0 rfl)) (fun y1 h2 => ?_)
  exact P_rp1 rfl h2
def kfl_tx_scanSign_128 (u0 : Int) (m : mR) : Option (Int × mR) :=
  some (u0, m)
theorem dg_tx_scanSign_128 (w : wX) (c : Nat → Option am_C) (N D : Nat) (bb : Nat) (u0 : Int) (r0 : R32 u0) (m : mR) (hm : KCn m) (j : Nat → Int) : PP bb w D pm_56 (128, [(0, .ref 6), (1, .int (i32 (j 1))), (2, .int (i32 (j 2))), (3, .int (i32 (j 3))), (4, .int (i32 (j 4)))], [.int (i32 u0)], (khp m c, N), 0, 0) (QS (FK1 c N) (kfl_tx_scanSign_128 u0 m)) := by
  unfold kfl_tx_scanSign_128
  show PP bb w D pm_56 (128, [(0, .ref 6), (1, .int (i32 (j 1))), (2, .int (i32 (j 2))), (3, .int (i32 (j 3))), (4, .int (i32 (j 4)))], [.int (i32 u0)], (khp (mO m [] []) c, N), 0, 0) _
  exact P_rk1 rfl r0 hm
def kfl_tx_scanSign_108 (v1 : Int) (v2 : Int) (v4 : Int) (u1 : Int) (u2 : Int) (m : mR) : Option (Int × mR) :=
  if v4 = 0 then
    kfl_tx_scanSign_128 v1 (mO m [(205, cut (u1 + u2))] [])
  else
    kfl_tx_scanSign_128 (cut ((cut (v1 * 256)) + v2)) (mO m [(205, cut (u1 + u2))] [])
theorem dg_tx_scanSign_108 (w : wX) (c : Nat → Option am_C) (N D : Nat) (bb : Nat) (v1 : Int) (v2 : Int) (v4 : Int) (u1 : Int) (u2 : Int) (q1 : R32 v1) (q2 : R32 v2) (q4 : R32 v4) (r1 : R32 u1) (r2 : R32 u2) (m : mR) (hm : KCn m) (j : Nat → Int) : PP bb w D pm_56 (108, [(0, .ref 6), (1, .int (i32 v1)), (2, .int (i32 v2)), (3, .int (i32 (j 3))), (4, .int (i32 v4))], [.int (i32 u2), .int (i32 u1), .ref 6], (khp m c, N), 0, 0) (QS (FK1 c N) (kfl_tx_scanSign_108 v1 v2 v4 u1 u2 m)) := by
  unfold kfl_tx_scanSign_108
  show PP bb w D pm_56 (108, [(0, .ref 6), (1, .int (i32 v1)), (2, .int (i32 v2)), (3, .int (i32 (j 3))), (4, .int (i32 v4))], [.int (i32 u2), .int (i32 u1), .ref 6], (khp (mO m [] []) c, N), 0, 0) _
  refine P_op 109 (cut (u1 + u2)) _ rfl (fun _ => rfl) o_add ?_
  refine PK_pf (l' := [(205, cut (u1 + u2))]) 112 (cut (u1 + u2)) rfl rfl kd_6 rfl rfl rfl rfl rfl rfl rfl ?_
  refine P_ld 114 (.int (i32 v4)) rfl (fun _ => rfl) ?_
  refine P_ifF 127 117 rfl rfl rfl q4 rfl (fun h1 => ?_) (fun h1 => ?_)
  · skip
    refine P_ld 128 (.int (i32 v1)) rfl (fun _ => rfl) ?_
    exact dg_tx_scanSign_128 w c N D bb v1 q1 (mO m [(205, cut (u1 + u2))] []) (KCn_mO hm rfl rfl ⟨(kV_i rfl cut_r), trivial⟩ trivial) (jk [(1, v1), (2, v2), (3, j 3), (4, v4)])
  · skip
    refine P_ld 118 (.int (i32 v1)) rfl (fun _ => rfl) ?_
    refine P_ld 121 (.int (i32 256)) rfl (fun _ => rfl) ?_
    refine P_op 122 (cut (v1 * 256)) _ rfl (fun _ => rfl) o_mul ?_
    refine P_ld 123 (.int (i32 v2)) rfl (fun _ => rfl) ?_
    refine P_op 124 (cut ((cut (v1 * 256)) + v2)) _ rfl (fun _ => rfl) o_add ?_
    refine P_goto 128 rfl (fun _ => rfl) ?_
    exact dg_tx_scanSign_128 w c N D bb (cut ((cut (v1 * 256)) + v2)) cut_r (mO m [(205, cut (u1 + u2))] []) (KCn_mO hm rfl rfl ⟨(kV_i rfl cut_r), trivial⟩ trivial) (jk [(1, v1), (2, v2), (3, j 3), (4, v4)])
def kfl_tx_scanSign_91 (v1 : Int) (v2 : Int) (u0 : Int) (m : mR) : Option (Int × mR) :=
  if u0 = 0 then
    kfl_tx_scanSign_108 v1 v2 u0 (m.1 205) 1 m
  else
    kfl_tx_scanSign_108 v1 v2 u0 (m.1 205) 2 m
theorem dg_tx_scanSign_91 (w : wX) (c : Nat → Option am_C) (N D : Nat) (bb : Nat) (v1 : Int) (v2 : Int) (u0 : Int) (q1 : R32 v1) (q2 : R32 v2) (r0 : R32 u0) (m : mR) (hm : KCn m) (j : Nat → Int) : PP bb w D pm_56 (91, [(0, .ref 6), (1, .int (i32 v1)), (2, .int (i32 v2)), (3, .int (i32 (j 3)))], [.int (i32 u0)], (khp m c, N), 0, 0) (QS (FK1 c N) (kfl_tx_scanSign_91 v1 v2 u0 m)) := by
  unfold kfl_tx_scanSign_91
  show PP bb w D pm_56 (91, [(0, .ref 6), (1, .int (i32 v1)), (2, .int (i32 v2)), (3, .int (i32 (j 3)))], [.int (i32 u0)], (khp (mO m [] []) c, N), 0, 0) _
  refine P_sto 93 [(4, .int (i32 u0)), (0, .ref 6), (1, .int (i32 v1)), (2, .int (i32 v2)), (3, .int (i32 (j 3)))] rfl (fun _ => rfl) ?_
  refine P_ld 94 (.ref 6) rfl (fun _ => rfl) ?_
  refine P_ld 95 (.ref 6) rfl (fun _ => rfl) ?_
  refine PK_gf 98 (.int (i32 (m.1 205))) rfl rfl kd_6 rfl rfl rfl ?_
  refine P_ld 100 (.int (i32 u0)) rfl (fun _ => rfl) ?_
  refine P_ifF 107 103 rfl rfl rfl r0 rfl (fun h2 => ?_) (fun h2 => ?_)
  · skip
    refine P_ld 108 (.int (i32 1)) rfl (fun _ => rfl) ?_
    refine P_lv (b := [(0, .ref 6), (1, .int (i32 v1)), (2, .int (i32 v2)), (3, .int (i32 (j 3))), (4, .int (i32 u0))]) rfl rfl ⟨rfl, rfl, rfl, rfl, rfl, trivial⟩ ?_
    exact dg_tx_scanSign_108 w c N D bb v1 v2 u0 (m.1 205) 1 q1 q2 r0 (KCn_i hm 205 rfl) (l32 1 rfl) m hm (jk [(3, j 3)])
  · skip
    refine P_ld 104 (.int (i32 2)) rfl (fun _ => rfl) ?_
    refine P_goto 108 rfl (fun _ => rfl) ?_
    refine P_lv (b := [(0, .ref 6), (1, .int (i32 v1)), (2, .int (i32 v2)), (3, .int (i32 (j 3))), (4, .int (i32 u0))]) rfl rfl ⟨rfl, rfl, rfl, rfl, rfl, trivial⟩ ?_
    exact dg_tx_scanSign_108 w c N D bb v1 v2 u0 (m.1 205) 2 q1 q2 r0 (KCn_i hm 205 rfl) (l32 2 rfl) m hm (jk [(3, j 3)])
def kfl_tx_scanSign_90 (v1 : Int) (v2 : Int) (m : mR) : Option (Int × mR) :=
  kfl_tx_scanSign_91 v1 v2 0 m
theorem dg_tx_scanSign_90 (w : wX) (c : Nat → Option am_C) (N D : Nat) (bb : Nat) (v1 : Int) (v2 : Int) (q1 : R32 v1) (q2 : R32 v2) (m : mR) (hm : KCn m) (j : Nat → Int) : PP bb w D pm_56 (90, [(0, .ref 6), (1, .int (i32 v1)), (2, .int (i32 v2)), (3, .int (i32 (j 3)))], [], (khp m c, N), 0, 0) (QS (FK1 c N) (kfl_tx_scanSign_90 v1 v2 m)) := by
  unfold kfl_tx_scanSign_90
  show PP bb w D pm_56 (90, [(0, .ref 6), (1, .int (i32 v1)), (2, .int (i32 v2)), (3, .int (i32 (j 3)))], [], (khp (mO m [] []) c, N), 0, 0) _
  refine P_ld 91 (.int (i32 0)) rfl (fun _ => rfl) ?_
  exact dg_tx_scanSign_91 w c N D bb v1 v2 0 q1 q2 (l32 0 rfl) m hm (jk [(3, j 3)])
def kfl_tx_scanSign_86 (v1 : Int) (v2 : Int) (m : mR) : Option (Int × mR) :=
  kfl_tx_scanSign_91 v1 v2 1 m
theorem dg_tx_scanSign_86 (w : wX) (c : Nat → Option am_C) (N D : Nat) (bb : Nat) (v1 : Int) (v2 : Int) (q1 : R32 v1) (q2 : R32 v2) (m : mR) (hm : KCn m) (j : Nat → Int) : PP bb w D pm_56 (86, [(0, .ref 6), (1, .int (i32 v1)), (2, .int (i32 v2)), (3, .int (i32 (j 3)))], [], (khp m c, N), 0, 0) (QS (FK1 c N) (kfl_tx_scanSign_86 v1 v2 m)) := by
  unfold kfl_tx_scanSign_86
  show PP bb w D pm_56 (86, [(0, .ref 6), (1, .int (i32 v1)), (2, .int (i32 v2)), (3, .int (i32 (j 3)))], [], (khp (mO m [] []) c, N), 0, 0) _
  refine P_ld 87 (.int (i32 1)) rfl (fun _ => rfl) ?_
  refine P_goto 91 rfl (fun _ => rfl) ?_
  exact dg_tx_scanSign_91 w c N D bb v1 v2 1 q1 q2 (l32 1 rfl) m hm (jk [(3, j 3)])
def kfl_tx_scanSign_65 (v1 : Int) (v2 : Int) (u0 : Int) (m : mR) : Option (Int × mR) :=
  if u0 = 0 then
    if v2 = 61 then
      bnd (kf_String_indexOf0_b20009 (i2c32 v1) m) fun y5 =>
      if y5 < 0 then
        kfl_tx_scanSign_90 v1 v2 m
      else
        kfl_tx_scanSign_86 v1 v2 m
    else
      kfl_tx_scanSign_90 v1 v2 m
  else
    kfl_tx_scanSign_86 v1 v2 m
theorem dg_tx_scanSign_65 (w : wX) (c : Nat → Option am_C) (N D : Nat) (bb : Nat) (v1 : Int) (v2 : Int) (u0 : Int) (q1 : R32 v1) (q2 : R32 v2) (r0 : R32 u0) (m : mR) (hm : KCn m) (j : Nat → Int) : PP bb w D pm_56 (65, [(0, .ref 6), (1, .int (i32 v1)), (2, .int (i32 v2))], [.int (i32 u0)], (khp m c, N), 0, 0) (QS (FK1 c N) (kfl_tx_scanSign_65 v1 v2 u0 m)) := by
  unfold kfl_tx_scanSign_65
  show PP bb w D pm_56 (65, [(0, .ref 6), (1, .int (i32 v1)), (2, .int (i32 v2))], [.int (i32 u0)], (khp (mO m [] []) c, N), 0, 0) _
  refine P_sto 66 [(3, .int (i32 u0)), (0, .ref 6), (1, .int (i32 v1)), (2, .int (i32 v2))] rfl (fun _ => rfl) ?_
  refine P_ld 67 (.int (i32 u0)) rfl (fun _ => rfl) ?_
  refine P_ifE 86 70 rfl rfl rfl r0 rfl (fun h3 => ?_) (fun h3 => ?_)
  · skip
    refine P_ld 71 (.int (i32 v2)) rfl (fun _ => rfl) ?_
    refine P_ld 73 (.int (i32 61)) rfl (fun _ => rfl) ?_
    refine P_icE 90 76 rfl rfl rfl q2 (l32 61 rfl) rfl (fun h4 => ?_) (fun h4 => ?_)
    · skip
      refine P_ld 78 (.ref 1000019) rfl (fun _ => rfl) ?_
      refine P_ld 79 (.int (i32 v1)) rfl (fun _ => rfl) ?_
      refine P_op 80 (i2c32 v1) _ rfl (fun _ => rfl) (i32_of _).symm ?_
      refine P_cp1 83 57 [.ref 1000019, .int (i32 (i2c32 v1))] [] rfl (fun _ => rfl) rfl (D_String_indexOf0_b20009 w m c N D hm (i2c32 v1) t32_r) (fun y5 h6 => ?_)
      refine P_ifF 90 86 rfl rfl rfl h6 rfl (fun h8 => ?_) (fun h8 => ?_)
      · skip
        refine P_lv (b := [(0, .ref 6), (1, .int (i32 v1)), (2, .int (i32 v2)), (3, .int (i32 u0))]) rfl rfl ⟨rfl, rfl, rfl, rfl, trivial⟩ ?_
        exact dg_tx_scanSign_90 w c N D bb v1 v2 q1 q2 m hm (jk [(3, u0)])
      · skip
        refine P_lv (b := [(0, .ref 6), (1, .int (i32 v1)), (2, .int (i32 v2)), (3, .int (i32 u0))]) rfl rfl ⟨rfl, rfl, rfl, rfl, trivial⟩ ?_
        exact dg_tx_scanSign_86 w c N D bb v1 v2 q1 q2 m hm (jk [(3, u0)])
    · skip
      refine P_lv (b := [(0, .ref 6), (1, .int (i32 v1)), (2, .int (i32 v2)), (3, .int (i32 u0))]) rfl rfl ⟨rfl, rfl, rfl, rfl, trivial⟩ ?_
      exact dg_tx_scanSign_90 w c N D bb v1 v2 q1 q2 m hm (jk [(3, u0)])
  · skip
    refine P_lv (b := [(0, .ref 6), (1, .int (i32 v1)), (2, .int (i32 v2)), (3, .int (i32 u0))]) rfl rfl ⟨rfl, rfl, rfl, rfl, trivial⟩ ?_
    exact dg_tx_scanSign_86 w c N D bb v1 v2 q1 q2 m hm (jk [(3, u0)])
def kfl_tx_scanSign_64 (v1 : Int) (v2 : Int) (m : mR) : Option (Int × mR) :=
  kfl_tx_scanSign_65 v1 v2 0 m
theorem dg_tx_scanSign_64 (w : wX) (c : Nat → Option am_C) (N D : Nat) (bb : Nat) (v1 : Int) (v2 : Int) (q1 : R32 v1) (q2 : R32 v2) (m : mR) (hm : KCn m) (j : Nat → Int) : PP bb w D pm_56 (64, [(0, .ref 6), (1, .int (i32 v1)), (2, .int (i32 v2))], [], (khp m c, N), 0, 0) (QS (FK1 c N) (kfl_tx_scanSign_64 v1 v2 m)) := by
  unfold kfl_tx_scanSign_64
  show PP bb w D pm_56 (64, [(0, .ref 6), (1, .int (i32 v1)), (2, .int (i32 v2))], [], (khp (mO m [] []) c, N), 0, 0) _
  refine P_ld 65 (.int (i32 0)) rfl (fun _ => rfl) ?_
  exact dg_tx_scanSign_65 w c N D bb v1 v2 0 q1 q2 (l32 0 rfl) m hm (jk [])
def kfl_tx_scanSign_44 (v1 : Int) (u0 : Int) (m : mR) : Option (Int × mR) :=
  if u0 = v1 then
    bnd (kf_String_indexOf0_b20008 (i2c32 v1) m) fun y10 =>
    if y10 < 0 then
      kfl_tx_scanSign_64 v1 u0 m
    else
      kfl_tx_scanSign_65 v1 u0 1 m
  else
    kfl_tx_scanSign_64 v1 u0 m
theorem dg_tx_scanSign_44 (w : wX) (c : Nat → Option am_C) (N D : Nat) (bb : Nat) (v1 : Int) (u0 : Int) (q1 : R32 v1) (r0 : R32 u0) (m : mR) (hm : KCn m) (j : Nat → Int) : PP bb w D pm_56 (44, [(0, .ref 6), (1, .int (i32 v1))], [.int (i32 u0)], (khp m c, N), 0, 0) (QS (FK1 c N) (kfl_tx_scanSign_44 v1 u0 m)) := by
  unfold kfl_tx_scanSign_44
  show PP bb w D pm_56 (44, [(0, .ref 6), (1, .int (i32 v1))], [.int (i32 u0)], (khp (mO m [] []) c, N), 0, 0) _
  refine P_sto 45 [(2, .int (i32 u0)), (0, .ref 6), (1, .int (i32 v1))] rfl (fun _ => rfl) ?_
  refine P_ld 46 (.int (i32 u0)) rfl (fun _ => rfl) ?_
  refine P_ld 47 (.int (i32 v1)) rfl (fun _ => rfl) ?_
  refine P_icE 64 50 rfl rfl rfl r0 q1 rfl (fun h9 => ?_) (fun h9 => ?_)
  · skip
    refine P_ld 52 (.ref 1000017) rfl (fun _ => rfl) ?_
    refine P_ld 53 (.int (i32 v1)) rfl (fun _ => rfl) ?_
    refine P_op 54 (i2c32 v1) _ rfl (fun _ => rfl) (i32_of _).symm ?_
    refine P_cp1 57 57 [.ref 1000017, .int (i32 (i2c32 v1))] [] rfl (fun _ => rfl) rfl (D_String_indexOf0_b20008 w m c N D hm (i2c32 v1) t32_r) (fun y10 h11 => ?_)
    refine P_ifF 64 60 rfl rfl rfl h11 rfl (fun h13 => ?_) (fun h13 => ?_)
    · skip
      refine P_lv (b := [(0, .ref 6), (1, .int (i32 v1)), (2, .int (i32 u0))]) rfl rfl ⟨rfl, rfl, rfl, trivial⟩ ?_
      exact dg_tx_scanSign_64 w c N D bb v1 u0 q1 r0 m hm (jk [])
    · skip
      refine P_ld 61 (.int (i32 1)) rfl (fun _ => rfl) ?_
      refine P_goto 65 rfl (fun _ => rfl) ?_
      refine P_lv (b := [(0, .ref 6), (1, .int (i32 v1)), (2, .int (i32 u0))]) rfl rfl ⟨rfl, rfl, rfl, trivial⟩ ?_
      exact dg_tx_scanSign_65 w c N D bb v1 u0 1 q1 r0 (l32 1 rfl) m hm (jk [])
  · skip
    refine P_lv (b := [(0, .ref 6), (1, .int (i32 v1)), (2, .int (i32 u0))]) rfl rfl ⟨rfl, rfl, rfl, trivial⟩ ?_
    exact dg_tx_scanSign_64 w c N D bb v1 u0 q1 r0 m hm (jk [])
def kf_tx_scanSign (v1 : Int) (m : mR) : Option (Int × mR) :=
  bnd (kf_String_indexOf0_b20007 (i2c32 v1) m) fun y14 =>
  if (0 : Int) ≤ y14 then
    if m.1 204 ≤ cut ((m.1 205) + 1) then
      kfl_tx_scanSign_44 v1 0 m
    else
      kfl_tx_scanSign_44 v1 (and32 ((m.2 1) (cut ((m.1 205) + 1))) 255) m
  else
    some ((-1), m)
theorem D_tx_scanSign (w : wX) (m : mR) (c : Nat → Option am_C) (N D : Nat) (hm : KCn m) (v1 : Int) (q1 : R32 v1) : PC w D 56 [.ref 6, .int (i32 v1)] (khp m c, N) (QS (FK1 c N) (kf_tx_scanSign v1 m)) := by
  refine Pc_of (fun D bb => ?_) D
  unfold kf_tx_scanSign
  show PP bb w D pm_56 (0, [(0, .ref 6), (1, .int (i32 v1))], [], (khp (mO m [] []) c, N), 0, 0) _
  refine P_ld 2 (.ref 1000015) rfl (fun _ => rfl) ?_
  refine P_ld 3 (.int (i32 v1)) rfl (fun _ => rfl) ?_
  refine P_op 4 (i2c32 v1) _ rfl (fun _ => rfl) (i32_of _).symm ?_
  refine P_cp1 7 57 [.ref 1000015, .int (i32 (i2c32 v1))] [] rfl (fun _ => rfl) rfl (D_String_indexOf0_b20007 w m c N D hm (i2c32 v1) t32_r) (fun y14 h15 => ?_)
  refine P_ifF 12 10 rfl rfl rfl h15 rfl (fun h17 => ?_) (fun h17 => ?_)
  · skip
    refine P_ld 13 (.ref 6) rfl (fun _ => rfl) ?_
    refine PK_gf 16 (.int (i32 (m.1 205))) rfl rfl kd_6 rfl rfl rfl ?_
    refine P_ld 17 (.int (i32 1)) rfl (fun _ => rfl) ?_
    refine P_op 18 (cut ((m.1 205) + 1)) _ rfl (fun _ => rfl) o_add ?_
    refine P_ld 19 (.ref 6) rfl (fun _ => rfl) ?_
    refine PK_gf 22 (.int (i32 (m.1 204))) rfl rfl kd_6 rfl rfl rfl ?_
    refine P_icF 43 25 rfl rfl rfl cut_r (KCn_i hm 204 rfl) rfl (fun h18 => ?_) (fun h18 => ?_)
    · skip
      refine P_ld 44 (.int (i32 0)) rfl (fun _ => rfl) ?_
      exact dg_tx_scanSign_44 w c N D bb v1 0 q1 (l32 0 rfl) m hm (jk [])
    · skip
      refine P_ld 26 (.ref 6) rfl (fun _ => rfl) ?_
      refine PK_gf 29 (.ref 2) rfl rfl kd_6 rfl rfl rfl ?_
      refine P_ld 30 (.ref 6) rfl (fun _ => rfl) ?_
      refine PK_gf 33 (.int (i32 (m.1 205))) rfl rfl kd_6 rfl rfl rfl ?_
      refine P_ld 34 (.int (i32 1)) rfl (fun _ => rfl) ?_
      refine P_op 35 (cut ((m.1 205) + 1)) _ rfl (fun _ => rfl) o_add ?_
      refine PK_bald2 36 1 (m.2 1) rfl rfl rfl cut_r rfl ?_
      refine P_ld 39 (.int (i32 255)) rfl (fun _ => rfl) ?_
      refine P_op 40 (and32 ((m.2 1) (cut ((m.1 205) + 1))) 255) _ rfl (fun _ => rfl) (i32_of _).symm ?_
      refine P_goto 44 rfl (fun _ => rfl) ?_
      exact dg_tx_scanSign_44 w c N D bb v1 (and32 ((m.2 1) (cut ((m.1 205) + 1))) 255) q1 t32_r m hm (jk [])
  · skip
    refine P_ld 11 (.int (i32 (-1))) rfl (fun _ => rfl) ?_
    exact P_rk1 rfl (l32 (-1) rfl) hm
def kfl_tx_fail_45 (u1 : Int) (m : mR) : Option (Int × Int × mR) :=
  some (1, 0, (mO m [(212, u1)] []))
theorem dg_tx_fail_45 (w : wX) (c : Nat → Option am_C) (N D : Nat) (bb : Nat) (u1 : Int) (r1 : R32 u1) (m : mR) (hm : KCn m) (j : Nat → Int) : PP bb w D pm_51 (45, [(0, .ref 6), (1, .int (i32 (j 1))), (2, .int (i32 (j 2))), (3, .int (i32 (j 3)))], [.int (i32 u1), .ref 6], (khp m c, N), 0, 0) (QS (FX0 c N) (kfl_tx_fail_45 u1 m)) := by
  unfold kfl_tx_fail_45
  show PP bb w D pm_51 (45, [(0, .ref 6), (1, .int (i32 (j 1))), (2, .int (i32 (j 2))), (3, .int (i32 (j 3)))], [.int (i32 u1), .ref 6], (khp (mO m [] []) c, N), 0, 0) _
  refine PK_pf (l' := [(212, u1)]) 48 u1 rfl rfl kd_6 rfl rfl rfl rfl rfl rfl rfl ?_
  exact P_thr rfl ⟨_, rfl, (KCn_mO hm rfl rfl ⟨(kV_i rfl r1), trivial⟩ trivial), Or.inr ⟨0, rfl, rfl⟩⟩
def kfl_tx_fail_29 (v2 : Int) (v3 : Int) (u1 : Int) (m : mR) : Option (Int × Int × mR) :=
  if v3 = 0 then
    kfl_tx_fail_45 v2 (mO m [(211, u1)] [])
  else
    kfl_tx_fail_45 (m.1 207) (mO m [(211, u1)] [])
theorem dg_tx_fail_29 (w : wX) (c : Nat → Option am_C) (N D : Nat) (bb : Nat) (v2 : Int) (v3 : Int) (u1 : Int) (q2 : R32 v2) (q3 : R32 v3) (r1 : R32 u1) (m : mR) (hm : KCn m) (j : Nat → Int) : PP bb w D pm_51 (29, [(0, .ref 6), (1, .int (i32 (j 1))), (2, .int (i32 v2)), (3, .int (i32 v3))], [.int (i32 u1), .ref 6], (khp m c, N), 0, 0) (QS (FX0 c N) (kfl_tx_fail_29 v2 v3 u1 m)) := by
  unfold kfl_tx_fail_29
  show PP bb w D pm_51 (29, [(0, .ref 6), (1, .int (i32 (j 1))), (2, .int (i32 v2)), (3, .int (i32 v3))], [.int (i32 u1), .ref 6], (khp (mO m [] []) c, N), 0, 0) _
  refine PK_pf (l' := [(211, u1)]) 32 u1 rfl rfl kd_6 rfl rfl rfl rfl rfl rfl rfl ?_
  refine P_ld 33 (.ref 6) rfl (fun _ => rfl) ?_
  refine P_ld 34 (.int (i32 v3)) rfl (fun _ => rfl) ?_
  refine P_ifF 44 37 rfl rfl rfl q3 rfl (fun h1 => ?_) (fun h1 => ?_)
  · skip
    refine P_ld 45 (.int (i32 v2)) rfl (fun _ => rfl) ?_
    exact dg_tx_fail_45 w c N D bb v2 q2 (mO m [(211, u1)] []) (KCn_mO hm rfl rfl ⟨(kV_i rfl r1), trivial⟩ trivial) (jk [(1, j 1), (2, v2), (3, v3)])
  · skip
    refine P_ld 38 (.ref 6) rfl (fun _ => rfl) ?_
    refine PK_gf 41 (.int (i32 (m.1 207))) rfl rfl kd_6 rfl rfl rfl ?_
    refine P_goto 45 rfl (fun _ => rfl) ?_
    exact dg_tx_fail_45 w c N D bb (m.1 207) (KCn_i hm 207 rfl) (mO m [(211, u1)] []) (KCn_mO hm rfl rfl ⟨(kV_i rfl r1), trivial⟩ trivial) (jk [(1, j 1), (2, v2), (3, v3)])
def kfl_tx_fail_18 (v1 : Int) (v2 : Int) (u0 : Int) (m : mR) : Option (Int × Int × mR) :=
  if u0 = 0 then
    kfl_tx_fail_29 v2 u0 v1 m
  else
    kfl_tx_fail_29 v2 u0 4 m
theorem dg_tx_fail_18 (w : wX) (c : Nat → Option am_C) (N D : Nat) (bb : Nat) (v1 : Int) (v2 : Int) (u0 : Int) (q1 : R32 v1) (q2 : R32 v2) (r0 : R32 u0) (m : mR) (hm : KCn m) (j : Nat → Int) : PP bb w D pm_51 (18, [(0, .ref 6), (1, .int (i32 v1)), (2, .int (i32 v2))], [.int (i32 u0)], (khp m c, N), 0, 0) (QS (FX0 c N) (kfl_tx_fail_18 v1 v2 u0 m)) := by
  unfold kfl_tx_fail_18
  show PP bb w D pm_51 (18, [(0, .ref 6), (1, .int (i32 v1)), (2, .int (i32 v2))], [.int (i32 u0)], (khp (mO m [] []) c, N), 0, 0) _
  refine P_sto 19 [(3, .int (i32 u0)), (0, .ref 6), (1, .int (i32 v1)), (2, .int (i32 v2))] rfl (fun _ => rfl) ?_
  refine P_ld 20 (.ref 6) rfl (fun _ => rfl) ?_
  refine P_ld 21 (.int (i32 u0)) rfl (fun _ => rfl) ?_
  refine P_ifF 28 24 rfl rfl rfl r0 rfl (fun h2 => ?_) (fun h2 => ?_)
  · skip
    refine P_ld 29 (.int (i32 v1)) rfl (fun _ => rfl) ?_
    refine P_lv (b := [(0, .ref 6), (1, .int (i32 v1)), (2, .int (i32 v2)), (3, .int (i32 u0))]) rfl rfl ⟨rfl, rfl, rfl, rfl, trivial⟩ ?_
    exact dg_tx_fail_29 w c N D bb v2 u0 v1 q2 r0 q1 m hm (jk [(1, v1)])
  · skip
    refine P_ld 25 (.int (i32 4)) rfl (fun _ => rfl) ?_
    refine P_goto 29 rfl (fun _ => rfl) ?_
    refine P_lv (b := [(0, .ref 6), (1, .int (i32 v1)), (2, .int (i32 v2)), (3, .int (i32 u0))]) rfl rfl ⟨rfl, rfl, rfl, rfl, trivial⟩ ?_
    exact dg_tx_fail_29 w c N D bb v2 u0 4 q2 r0 (l32 4 rfl) m hm (jk [(1, v1)])
def kfl_tx_fail_17 (v1 : Int) (v2 : Int) (m : mR) : Option (Int × Int × mR) :=
  kfl_tx_fail_18 v1 v2 0 m
theorem dg_tx_fail_17 (w : wX) (c : Nat → Option am_C) (N D : Nat) (bb : Nat) (v1 : Int) (v2 : Int) (q1 : R32 v1) (q2 : R32 v2) (m : mR) (hm : KCn m) (j : Nat → Int) : PP bb w D pm_51 (17, [(0, .ref 6), (1, .int (i32 v1)), (2, .int (i32 v2))], [], (khp m c, N), 0, 0) (QS (FX0 c N) (kfl_tx_fail_17 v1 v2 m)) := by
  unfold kfl_tx_fail_17
  show PP bb w D pm_51 (17, [(0, .ref 6), (1, .int (i32 v1)), (2, .int (i32 v2))], [], (khp (mO m [] []) c, N), 0, 0) _
  refine P_ld 18 (.int (i32 0)) rfl (fun _ => rfl) ?_
  exact dg_tx_fail_18 w c N D bb v1 v2 0 q1 q2 (l32 0 rfl) m hm (jk [])
def kf_tx_fail (v1 : Int) (v2 : Int) (m : mR) : Option (Int × Int × mR) :=
  if m.1 213 = 0 then
    kfl_tx_fail_17 v1 v2 m
  else
    if (7 : Int) ≤ v1 then
      kfl_tx_fail_17 v1 v2 m
    else
      kfl_tx_fail_18 v1 v2 1 m
theorem D_tx_fail (w : wX) (m : mR) (c : Nat → Option am_C) (N D : Nat) (hm : KCn m) (v1 : Int) (v2 : Int) (q1 : R32 v1) (q2 : R32 v2) : PC w D 51 [.ref 6, .int (i32 v1), .int (i32 v2)] (khp m c, N) (QS (FX0 c N) (kf_tx_fail v1 v2 m)) := by
  refine Pc_of (fun D bb => ?_) D
  unfold kf_tx_fail
  show PP bb w D pm_51 (0, [(0, .ref 6), (1, .int (i32 v1)), (2, .int (i32 v2))], [], (khp (mO m [] []) c, N), 0, 0) _
  refine P_ld 1 (.ref 6) rfl (fun _ => rfl) ?_
  refine PK_gf 4 (.int (i32 (m.1 213))) rfl rfl kd_6 rfl rfl rfl ?_
  refine P_ifF 17 7 rfl rfl rfl (KCn_i hm 213 rfl) rfl (fun h3 => ?_) (fun h3 => ?_)
  · skip
    exact dg_tx_fail_17 w c N D bb v1 v2 q1 q2 m hm (jk [])
  · skip
    refine P_ld 8 (.int (i32 v1)) rfl (fun _ => rfl) ?_
    refine P_ld 10 (.int (i32 7)) rfl (fun _ => rfl) ?_
    refine P_icF 17 13 rfl rfl rfl q1 (l32 7 rfl) rfl (fun h4 => ?_) (fun h4 => ?_)
    · skip
      exact dg_tx_fail_17 w c N D bb v1 v2 q1 q2 m hm (jk [])
    · skip
      refine P_ld 14 (.int (i32 1)) rfl (fun _ => rfl) ?_
      refine P_goto 18 rfl (fun _ => rfl) ?_
      exact dg_tx_fail_18 w c N D bb v1 v2 1 q1 q2 (l32 1 rfl) m hm (jk [])
def cs_tx_scanDecimal_5 (s : mR) : Prop := KCn s
def cx_tx_scanDecimal_5 : (mR) → Prop := (fun (e : mR) => KCn e)
def hd_tx_scanDecimal_5 (c : Nat → Option am_C) (N : Nat) (s : mR) (j : Nat → Int) : ag_St af_T := (5, [(0, .ref 6)], [], (khp s c, N), 0, 0)
def ex_tx_scanDecimal_5 (c : Nat → Option am_C) (N : Nat) : (mR) → (Nat → Int) → ag_St af_T := (fun (e : mR) (j : Nat → Int) => ((83, [(0, .ref 6)], [], (khp e c, N), 0, 0) : ag_St af_T))
def kfl_tx_scanDecimal_104 (u0 : Int) (m : mR) : Option (Int × mR) :=
  some (u0, m)
theorem dg_tx_scanDecimal_104 (w : wX) (c : Nat → Option am_C) (N D : Nat) (bb : Nat) (u0 : Int) (r0 : R32 u0) (m : mR) (hm : KCn m) (j : Nat → Int) : PP bb w D pm_55 (104, [(0, .ref 6)], [.int (i32 u0)], (khp m c, N), 0, 0) (QS (FK1 c N) (kfl_tx_scanDecimal_104 u0 m)) := by
  unfold kfl_tx_scanDecimal_104
  show PP bb w D pm_55 (104, [(0, .ref 6)], [.int (i32 u0)], (khp (mO m [] []) c, N), 0, 0) _
  exact P_rk1 rfl r0 hm
def kfl_tx_scanDecimal_83 (m : mR) : Option (Int × mR) :=
  if cut ((m.1 205) - (m.1 207)) ≤ 18 then
    kfl_tx_scanDecimal_104 257 m
  else
    kfl_tx_scanDecimal_104 (-1) m
theorem dg_tx_scanDecimal_83 (w : wX) (c : Nat → Option am_C) (N D : Nat) (bb : Nat) (m : mR) (hm : KCn m) (j : Nat → Int) : PP bb w D pm_55 (83, [(0, .ref 6)], [], (khp m c, N), 0, 0) (QS (FK1 c N) (kfl_tx_scanDecimal_83 m)) := by
  unfold kfl_tx_scanDecimal_83
  show PP bb w D pm_55 (83, [(0, .ref 6)], [], (khp (mO m [] []) c, N), 0, 0) _
  refine P_ld 84 (.ref 6) rfl (fun _ => rfl) ?_
  refine PK_gf 87 (.int (i32 (m.1 205))) rfl rfl kd_6 rfl rfl rfl ?_
  refine P_ld 88 (.ref 6) rfl (fun _ => rfl) ?_
  refine PK_gf 91 (.int (i32 (m.1 207))) rfl rfl kd_6 rfl rfl rfl ?_
  refine P_op 92 (cut ((m.1 205) - (m.1 207))) _ rfl (fun _ => rfl) o_sub ?_
  refine P_ld 94 (.int (i32 18)) rfl (fun _ => rfl) ?_
  refine P_icF 101 97 rfl rfl rfl cut_r (l32 18 rfl) rfl (fun h2 => ?_) (fun h2 => ?_)
  · skip
    refine P_ld 104 (.int (i32 257)) rfl (fun _ => rfl) ?_
    exact dg_tx_scanDecimal_104 w c N D bb 257 (l32 257 rfl) m hm (jk [])
  · skip
    refine P_ld 98 (.int (i32 (-1))) rfl (fun _ => rfl) ?_
    refine P_goto 104 rfl (fun _ => rfl) ?_
    exact dg_tx_scanDecimal_104 w c N D bb (-1) (l32 (-1) rfl) m hm (jk [])
def kfb_tx_scanDecimal_5 (s : mR) : Option (Sum (mR) (mR)) :=
  if s.1 204 ≤ s.1 205 then
    some (.inr s)
  else
    if (s.2 1) (s.1 205) < 48 then
      some (.inr s)
    else
      if (57 : Int) < (s.2 1) (s.1 205) then
        some (.inr s)
      else
        some (.inl (mO s [(205, cut ((s.1 205) + 1)), (208, cutl ((cutl ((s.1 208) * 10)) + (cut (((s.2 1) (s.1 205)) - 48))))] []))
theorem dh_tx_scanDecimal_5 (w : wX) (c : Nat → Option am_C) (N D : Nat) (bb : Nat) (Q2 : Sum (mR) (mR) → ag_Re af_T → Prop) (H1 : ∀ s j, cs_tx_scanDecimal_5 s → PP bb w D pm_55 (hd_tx_scanDecimal_5 c N s j) (Q2 (.inl s))) (H2 : ∀ x j, cx_tx_scanDecimal_5 x → PP bb w D pm_55 (ex_tx_scanDecimal_5 c N x j) (Q2 (.inr x))) (s : mR) (j : Nat → Int) (hs : cs_tx_scanDecimal_5 s) : PP (bb + 1) w D pm_55 (hd_tx_scanDecimal_5 c N s j) (QS Q2 (kfb_tx_scanDecimal_5 s)) := by
  have gm := hs
  unfold kfb_tx_scanDecimal_5
  show PP (bb + 1) w D pm_55 (5, [(0, .ref 6)], [], (khp (mO s [] []) c, N), 0, 0) _
  refine P1_ld 6 (.ref 6) rfl (fun _ => rfl) ?_
  refine PK_gf 9 (.int (i32 (s.1 205))) rfl rfl kd_6 rfl rfl rfl ?_
  refine P_ld 10 (.ref 6) rfl (fun _ => rfl) ?_
  refine PK_gf 13 (.int (i32 (s.1 204))) rfl rfl kd_6 rfl rfl rfl ?_
  refine P_icF 83 16 rfl rfl rfl (KCn_i gm 205 rfl) (KCn_i gm 204 rfl) rfl (fun h4 => ?_) (fun h4 => ?_)
  · skip
    refine P_some ?_
    exact H2 s (jk []) gm
  · skip
    refine P_ld 17 (.ref 6) rfl (fun _ => rfl) ?_
    refine PK_gf 20 (.ref 2) rfl rfl kd_6 rfl rfl rfl ?_
    refine P_ld 21 (.ref 6) rfl (fun _ => rfl) ?_
    refine PK_gf 24 (.int (i32 (s.1 205))) rfl rfl kd_6 rfl rfl rfl ?_
    refine PK_bald2 25 1 (s.2 1) rfl rfl rfl (KCn_i gm 205 rfl) rfl ?_
    refine P_ld 27 (.int (i32 48)) rfl (fun _ => rfl) ?_
    refine P_icF 83 30 rfl rfl rfl (kE_i (KCn_a gm 1) rfl _) (l32 48 rfl) rfl (fun h5 => ?_) (fun h5 => ?_)
    · skip
      refine P_some ?_
      exact H2 s (jk []) gm
    · skip
      refine P_ld 31 (.ref 6) rfl (fun _ => rfl) ?_
      refine PK_gf 34 (.ref 2) rfl rfl kd_6 rfl rfl rfl ?_
      refine P_ld 35 (.ref 6) rfl (fun _ => rfl) ?_
      refine PK_gf 38 (.int (i32 (s.1 205))) rfl rfl kd_6 rfl rfl rfl ?_
      refine PK_bald2 39 1 (s.2 1) rfl rfl rfl (KCn_i gm 205 rfl) rfl ?_
      refine P_ld 41 (.int (i32 57)) rfl (fun _ => rfl) ?_
      refine P_icF 83 44 rfl rfl rfl (kE_i (KCn_a gm 1) rfl _) (l32 57 rfl) rfl (fun h6 => ?_) (fun h6 => ?_)
      · skip
        refine P_some ?_
        exact H2 s (jk []) gm
      · skip
        refine P_ld 45 (.ref 6) rfl (fun _ => rfl) ?_
        refine P_ld 46 (.ref 6) rfl (fun _ => rfl) ?_
        refine PK_gf 49 (.long (i64 (s.1 208))) rfl rfl kd_6 rfl rfl rfl ?_
        refine P_ld 52 (.long (i64 10)) rfl (fun _ => rfl) ?_
        refine P_opl 53 (cutl ((s.1 208) * 10)) _ rfl (fun _ => rfl) p_mul ?_
        refine P_ld 54 (.ref 6) rfl (fun _ => rfl) ?_
        refine PK_gf 57 (.ref 2) rfl rfl kd_6 rfl rfl rfl ?_
        refine P_ld 58 (.ref 6) rfl (fun _ => rfl) ?_
        refine PK_gf 61 (.int (i32 (s.1 205))) rfl rfl kd_6 rfl rfl rfl ?_
        refine PK_bald2 62 1 (s.2 1) rfl rfl rfl (KCn_i gm 205 rfl) rfl ?_
        refine P_ld 64 (.int (i32 48)) rfl (fun _ => rfl) ?_
        refine P_op 65 (cut (((s.2 1) (s.1 205)) - 48)) _ rfl (fun _ => rfl) o_sub ?_
        refine P_opl 66 (cut (((s.2 1) (s.1 205)) - 48)) _ rfl (fun _ => rfl) (o_i2l cut_r) ?_
        refine P_opl 67 (cutl ((cutl ((s.1 208) * 10)) + (cut (((s.2 1) (s.1 205)) - 48)))) _ rfl (fun _ => rfl) p_add ?_
        refine PK_pf (l' := [(208, cutl ((cutl ((s.1 208) * 10)) + (cut (((s.2 1) (s.1 205)) - 48))))]) 70 (cutl ((cutl ((s.1 208) * 10)) + (cut (((s.2 1) (s.1 205)) - 48)))) rfl rfl kd_6 rfl rfl rfl rfl rfl rfl rfl ?_
        refine P_ld 71 (.ref 6) rfl (fun _ => rfl) ?_
        refine P_ld 72 (.ref 6) rfl (fun _ => rfl) ?_
        refine PK_gf 75 (.int (i32 (s.1 205))) rfl rfl kd_6 rfl rfl rfl ?_
        refine P_ld 76 (.int (i32 1)) rfl (fun _ => rfl) ?_
        refine P_op 77 (cut ((s.1 205) + 1)) _ rfl (fun _ => rfl) o_add ?_
        refine PK_pf (l' := [(205, cut ((s.1 205) + 1)), (208, cutl ((cutl ((s.1 208) * 10)) + (cut (((s.2 1) (s.1 205)) - 48))))]) 80 (cut ((s.1 205) + 1)) rfl rfl kd_6 rfl rfl rfl rfl rfl rfl rfl ?_
        refine P_goto 5 rfl (fun _ => rfl) ?_
        refine P_some ?_
        exact H1 (mO s [(205, cut ((s.1 205) + 1)), (208, cutl ((cutl ((s.1 208) * 10)) + (cut (((s.2 1) (s.1 205)) - 48))))] []) (jk []) (KCn_mO gm rfl rfl ⟨(kV_i rfl cut_r), (kV_l rfl cutl_r), trivial⟩ trivial)
def kf_tx_scanDecimal (m : mR) : Option (Int × mR) :=
  bnd (whl kfb_tx_scanDecimal_5 (mO m [(208, 0)] [])) (fun e7 : mR =>
    kfl_tx_scanDecimal_83 e7)
theorem D_tx_scanDecimal (w : wX) (m : mR) (c : Nat → Option am_C) (N D : Nat) (hm : KCn m) : PC w D 55 [.ref 6] (khp m c, N) (QS (FK1 c N) (kf_tx_scanDecimal m)) := by
  refine Pc_of (fun D bb => ?_) D
  unfold kf_tx_scanDecimal
  show PP bb w D pm_55 (0, [(0, .ref 6)], [], (khp (mO m [] []) c, N), 0, 0) _
  refine P_ld 1 (.ref 6) rfl (fun _ => rfl) ?_
  refine P_ld 2 (.long (i64 0)) rfl (fun _ => rfl) ?_
  refine PK_pf (l' := [(208, 0)]) 5 0 rfl rfl kd_6 rfl rfl rfl rfl rfl rfl rfl ?_
  refine P_bnd ?_
  refine P_whl (fun bb Q2 H1 H2 s9 j9 hs9 => dh_tx_scanDecimal_5 w c N D bb Q2 H1 H2 s9 j9 hs9) bb (fun e7 j q8 => ?_) (mO m [(208, 0)] []) (jk []) (KCn_mO hm rfl rfl ⟨(kV_l rfl (l64 0 rfl)), trivial⟩ trivial)
  have q9 := q8
  show PP bb w D pm_55 (83, [(0, .ref 6)], [], (khp (mO e7 [] []) c, N), 0, 0) (QS _ (kfl_tx_scanDecimal_83 e7))
  exact dg_tx_scanDecimal_83 w c N D bb e7 q9 (jk [])
def cs_tx_scanHex_17 (s : Int × mR) : Prop := R32 s.1 ∧ KCn s.2
def cx_tx_scanHex_17 : (mR) → Prop := (fun (e : mR) => KCn e)
def hd_tx_scanHex_17 (c : Nat → Option am_C) (N : Nat) (s : Int × mR) (j : Nat → Int) : ag_St af_T := (17, [(0, .ref 6), (1, .int (i32 s.1)), (2, .int (i32 (j 2))), (3, .int (i32 (j 3)))], [], (khp s.2 c, N), 0, 0)
def ex_tx_scanHex_17 (c : Nat → Option am_C) (N : Nat) : (mR) → (Nat → Int) → ag_St af_T := (fun (e : mR) (j : Nat → Int) => ((129, [(0, .ref 6), (1, .int (i32 (j 1))), (2, .int (i32 (j 2))), (3, .int (i32 (j 3)))], [], (khp e c, N), 0, 0) : ag_St af_T))
def kfl_tx_scanHex_159 (u0 : Int) (m : mR) : Option (Int × mR) :=
  some (u0, m)
theorem dg_tx_scanHex_159 (w : wX) (c : Nat → Option am_C) (N D : Nat) (bb : Nat) (u0 : Int) (r0 : R32 u0) (m : mR) (hm : KCn m) (j : Nat → Int) : PP bb w D pm_54 (159, [(0, .ref 6), (1, .int (i32 (j 1))), (2, .int (i32 (j 2))), (3, .int (i32 (j 3)))], [.int (i32 u0)], (khp m c, N), 0, 0) (QS (FK1 c N) (kfl_tx_scanHex_159 u0 m)) := by
  unfold kfl_tx_scanHex_159
  show PP bb w D pm_54 (159, [(0, .ref 6), (1, .int (i32 (j 1))), (2, .int (i32 (j 2))), (3, .int (i32 (j 3)))], [.int (i32 u0)], (khp (mO m [] []) c, N), 0, 0) _
  exact P_rk1 rfl r0 hm
def kfl_tx_scanHex_152 (m : mR) : Option (Int × mR) :=
  kfl_tx_scanHex_159 (-1) m
theorem dg_tx_scanHex_152 (w : wX) (c : Nat → Option am_C) (N D : Nat) (bb : Nat) (m : mR) (hm : KCn m) (j : Nat → Int) : PP bb w D pm_54 (152, [(0, .ref 6), (1, .int (i32 (j 1))), (2, .int (i32 (j 2))), (3, .int (i32 (j 3)))], [], (khp m c, N), 0, 0) (QS (FK1 c N) (kfl_tx_scanHex_152 m)) := by
  unfold kfl_tx_scanHex_152
  show PP bb w D pm_54 (152, [(0, .ref 6), (1, .int (i32 (j 1))), (2, .int (i32 (j 2))), (3, .int (i32 (j 3)))], [], (khp (mO m [] []) c, N), 0, 0) _
  refine P_ld 153 (.int (i32 (-1))) rfl (fun _ => rfl) ?_
  refine P_goto 159 rfl (fun _ => rfl) ?_
  exact dg_tx_scanHex_159 w c N D bb (-1) (l32 (-1) rfl) m hm (jk [(1, j 1), (2, j 2), (3, j 3)])
def kfl_tx_scanHex_129 (m : mR) : Option (Int × mR) :=
  if cut ((cut ((m.1 205) - (m.1 207))) - 2) < 1 then
    kfl_tx_scanHex_152 m
  else
    if cut ((cut ((m.1 205) - (m.1 207))) - 2) ≤ 16 then
      kfl_tx_scanHex_159 257 m
    else
      kfl_tx_scanHex_152 m
theorem dg_tx_scanHex_129 (w : wX) (c : Nat → Option am_C) (N D : Nat) (bb : Nat) (m : mR) (hm : KCn m) (j : Nat → Int) : PP bb w D pm_54 (129, [(0, .ref 6), (1, .int (i32 (j 1))), (2, .int (i32 (j 2))), (3, .int (i32 (j 3)))], [], (khp m c, N), 0, 0) (QS (FK1 c N) (kfl_tx_scanHex_129 m)) := by
  unfold kfl_tx_scanHex_129
  show PP bb w D pm_54 (129, [(0, .ref 6), (1, .int (i32 (j 1))), (2, .int (i32 (j 2))), (3, .int (i32 (j 3)))], [], (khp (mO m [] []) c, N), 0, 0) _
  refine P_ld 130 (.ref 6) rfl (fun _ => rfl) ?_
  refine PK_gf 133 (.int (i32 (m.1 205))) rfl rfl kd_6 rfl rfl rfl ?_
  refine P_ld 134 (.ref 6) rfl (fun _ => rfl) ?_
  refine PK_gf 137 (.int (i32 (m.1 207))) rfl rfl kd_6 rfl rfl rfl ?_
  refine P_op 138 (cut ((m.1 205) - (m.1 207))) _ rfl (fun _ => rfl) o_sub ?_
  refine P_ld 139 (.int (i32 2)) rfl (fun _ => rfl) ?_
  refine P_op 140 (cut ((cut ((m.1 205) - (m.1 207))) - 2)) _ rfl (fun _ => rfl) o_sub ?_
  refine P_sto 141 [(2, .int (i32 (cut ((cut ((m.1 205) - (m.1 207))) - 2)))), (0, .ref 6), (1, .int (i32 (j 1))), (3, .int (i32 (j 3)))] rfl (fun _ => rfl) ?_
  refine P_ld 142 (.int (i32 (cut ((cut ((m.1 205) - (m.1 207))) - 2)))) rfl (fun _ => rfl) ?_
  refine P_ld 143 (.int (i32 1)) rfl (fun _ => rfl) ?_
  refine P_icF 152 146 rfl rfl rfl cut_r (l32 1 rfl) rfl (fun h2 => ?_) (fun h2 => ?_)
  · skip
    refine P_lv (b := [(0, .ref 6), (1, .int (i32 (j 1))), (2, .int (i32 (cut ((cut ((m.1 205) - (m.1 207))) - 2)))), (3, .int (i32 (j 3)))]) rfl rfl ⟨rfl, rfl, rfl, rfl, trivial⟩ ?_
    exact dg_tx_scanHex_152 w c N D bb m hm (jk [(1, j 1), (2, cut ((cut ((m.1 205) - (m.1 207))) - 2)), (3, j 3)])
  · skip
    refine P_ld 147 (.int (i32 (cut ((cut ((m.1 205) - (m.1 207))) - 2)))) rfl (fun _ => rfl) ?_
    refine P_ld 149 (.int (i32 16)) rfl (fun _ => rfl) ?_
    refine P_icF 156 152 rfl rfl rfl cut_r (l32 16 rfl) rfl (fun h3 => ?_) (fun h3 => ?_)
    · skip
      refine P_ld 159 (.int (i32 257)) rfl (fun _ => rfl) ?_
      refine P_lv (b := [(0, .ref 6), (1, .int (i32 (j 1))), (2, .int (i32 (cut ((cut ((m.1 205) - (m.1 207))) - 2)))), (3, .int (i32 (j 3)))]) rfl rfl ⟨rfl, rfl, rfl, rfl, trivial⟩ ?_
      exact dg_tx_scanHex_159 w c N D bb 257 (l32 257 rfl) m hm (jk [(1, j 1), (2, cut ((cut ((m.1 205) - (m.1 207))) - 2)), (3, j 3)])
    · skip
      refine P_lv (b := [(0, .ref 6), (1, .int (i32 (j 1))), (2, .int (i32 (cut ((cut ((m.1 205) - (m.1 207))) - 2)))), (3, .int (i32 (j 3)))]) rfl rfl ⟨rfl, rfl, rfl, rfl, trivial⟩ ?_
      exact dg_tx_scanHex_152 w c N D bb m hm (jk [(1, j 1), (2, cut ((cut ((m.1 205) - (m.1 207))) - 2)), (3, j 3)])
def kfl_tx_scanHex_126 (v1 : Int) (m : mR) : Option (Sum (Int × mR) (mR)) :=
  some (.inl (v1, m))
theorem dg_tx_scanHex_126 (w : wX) (c : Nat → Option am_C) (N D : Nat) (bb : Nat) (v1 : Int) (q1 : R32 v1) (m : mR) (hm : KCn m) (j : Nat → Int) (Q2 : Sum (Int × mR) (mR) → ag_Re af_T → Prop) (H1 : ∀ s j, cs_tx_scanHex_17 s → PP bb w D pm_54 (hd_tx_scanHex_17 c N s j) (Q2 (.inl s))) (H2 : ∀ x j, cx_tx_scanHex_17 x → PP bb w D pm_54 (ex_tx_scanHex_17 c N x j) (Q2 (.inr x))) : PP bb w D pm_54 (126, [(0, .ref 6), (1, .int (i32 v1)), (2, .int (i32 (j 2))), (3, .int (i32 (j 3)))], [], (khp m c, N), 0, 0) (QS Q2 (kfl_tx_scanHex_126 v1 m)) := by
  unfold kfl_tx_scanHex_126
  show PP bb w D pm_54 (126, [(0, .ref 6), (1, .int (i32 v1)), (2, .int (i32 (j 2))), (3, .int (i32 (j 3)))], [], (khp (mO m [] []) c, N), 0, 0) _
  refine P_goto 17 rfl (fun _ => rfl) ?_
  refine P_some ?_
  exact H1 (v1, m) (jk [(2, j 2), (3, j 3)]) ⟨q1, hm⟩
def kfl_tx_scanHex_111 (v1 : Int) (u1 : Int) (u2 : Int) (m : mR) : Option (Sum (Int × mR) (mR)) :=
  kfl_tx_scanHex_126 v1 (mO m [(205, cut ((m.1 205) + 1)), (208, or64 u1 u2)] [])
theorem dg_tx_scanHex_111 (w : wX) (c : Nat → Option am_C) (N D : Nat) (bb : Nat) (v1 : Int) (u1 : Int) (u2 : Int) (q1 : R32 v1) (r1 : R64 u1) (r2 : R32 u2) (m : mR) (hm : KCn m) (j : Nat → Int) (Q2 : Sum (Int × mR) (mR) → ag_Re af_T → Prop) (H1 : ∀ s j, cs_tx_scanHex_17 s → PP bb w D pm_54 (hd_tx_scanHex_17 c N s j) (Q2 (.inl s))) (H2 : ∀ x j, cx_tx_scanHex_17 x → PP bb w D pm_54 (ex_tx_scanHex_17 c N x j) (Q2 (.inr x))) : PP bb w D pm_54 (111, [(0, .ref 6), (1, .int (i32 v1)), (2, .int (i32 (j 2))), (3, .int (i32 (j 3)))], [.int (i32 u2), .long (i64 u1), .ref 6], (khp m c, N), 0, 0) (QS Q2 (kfl_tx_scanHex_111 v1 u1 u2 m)) := by
  unfold kfl_tx_scanHex_111
  show PP bb w D pm_54 (111, [(0, .ref 6), (1, .int (i32 v1)), (2, .int (i32 (j 2))), (3, .int (i32 (j 3)))], [.int (i32 u2), .long (i64 u1), .ref 6], (khp (mO m [] []) c, N), 0, 0) _
  refine P_opl 112 u2 _ rfl (fun _ => rfl) (o_i2l r2) ?_
  refine P_opl 113 (or64 u1 u2) _ rfl (fun _ => rfl) (Int64.ofInt_toInt _).symm ?_
  refine PK_pf (l' := [(208, or64 u1 u2)]) 116 (or64 u1 u2) rfl rfl kd_6 rfl rfl rfl rfl rfl rfl rfl ?_
  refine P_ld 117 (.ref 6) rfl (fun _ => rfl) ?_
  refine P_ld 118 (.ref 6) rfl (fun _ => rfl) ?_
  refine PK_gf 121 (.int (i32 (m.1 205))) rfl rfl kd_6 rfl rfl rfl ?_
  refine P_ld 122 (.int (i32 1)) rfl (fun _ => rfl) ?_
  refine P_op 123 (cut ((m.1 205) + 1)) _ rfl (fun _ => rfl) o_add ?_
  refine PK_pf (l' := [(205, cut ((m.1 205) + 1)), (208, or64 u1 u2)]) 126 (cut ((m.1 205) + 1)) rfl rfl kd_6 rfl rfl rfl rfl rfl rfl rfl ?_
  exact dg_tx_scanHex_126 w c N D bb v1 q1 (mO m [(205, cut ((m.1 205) + 1)), (208, or64 u1 u2)] []) (KCn_mO hm rfl rfl ⟨(kV_i rfl cut_r), (kV_l rfl t64_r), trivial⟩ trivial) (jk [(2, j 2), (3, j 3)]) Q2 H1 H2
def kfl_tx_scanHex_81 (v2 : Int) (v3 : Int) (u0 : Int) (m : mR) : Option (Sum (Int × mR) (mR)) :=
  if u0 = 0 then
    kfl_tx_scanHex_126 u0 m
  else
    if v3 = 0 then
      kfl_tx_scanHex_111 u0 (shl64 (m.1 208) 4) (cut ((cut (v2 - 97)) + 10)) m
    else
      kfl_tx_scanHex_111 u0 (shl64 (m.1 208) 4) (cut (v2 - 48)) m
theorem dg_tx_scanHex_81 (w : wX) (c : Nat → Option am_C) (N D : Nat) (bb : Nat) (v2 : Int) (v3 : Int) (u0 : Int) (q2 : R32 v2) (q3 : R32 v3) (r0 : R32 u0) (m : mR) (hm : KCn m) (j : Nat → Int) (Q2 : Sum (Int × mR) (mR) → ag_Re af_T → Prop) (H1 : ∀ s j, cs_tx_scanHex_17 s → PP bb w D pm_54 (hd_tx_scanHex_17 c N s j) (Q2 (.inl s))) (H2 : ∀ x j, cx_tx_scanHex_17 x → PP bb w D pm_54 (ex_tx_scanHex_17 c N x j) (Q2 (.inr x))) : PP bb w D pm_54 (81, [(0, .ref 6), (1, .int (i32 (j 1))), (2, .int (i32 v2)), (3, .int (i32 v3))], [.int (i32 u0)], (khp m c, N), 0, 0) (QS Q2 (kfl_tx_scanHex_81 v2 v3 u0 m)) := by
  unfold kfl_tx_scanHex_81
  show PP bb w D pm_54 (81, [(0, .ref 6), (1, .int (i32 (j 1))), (2, .int (i32 v2)), (3, .int (i32 v3))], [.int (i32 u0)], (khp (mO m [] []) c, N), 0, 0) _
  refine P_sto 82 [(1, .int (i32 u0)), (0, .ref 6), (2, .int (i32 v2)), (3, .int (i32 v3))] rfl (fun _ => rfl) ?_
  refine P_ld 83 (.int (i32 u0)) rfl (fun _ => rfl) ?_
  refine P_ifF 126 86 rfl rfl rfl r0 rfl (fun h4 => ?_) (fun h4 => ?_)
  · skip
    refine P_lv (b := [(0, .ref 6), (1, .int (i32 u0)), (2, .int (i32 v2)), (3, .int (i32 v3))]) rfl rfl ⟨rfl, rfl, rfl, rfl, trivial⟩ ?_
    exact dg_tx_scanHex_126 w c N D bb u0 r0 m hm (jk [(2, v2), (3, v3)]) Q2 H1 H2
  · skip
    refine P_ld 87 (.ref 6) rfl (fun _ => rfl) ?_
    refine P_ld 88 (.ref 6) rfl (fun _ => rfl) ?_
    refine PK_gf 91 (.long (i64 (m.1 208))) rfl rfl kd_6 rfl rfl rfl ?_
    refine P_ld 92 (.int (i32 4)) rfl (fun _ => rfl) ?_
    refine P_opl 93 (shl64 (m.1 208) 4) _ rfl (fun _ => rfl) (Int64.ofInt_toInt _).symm ?_
    refine P_ld 94 (.int (i32 v3)) rfl (fun _ => rfl) ?_
    refine P_ifF 104 97 rfl rfl rfl q3 rfl (fun h5 => ?_) (fun h5 => ?_)
    · skip
      refine P_ld 105 (.int (i32 v2)) rfl (fun _ => rfl) ?_
      refine P_ld 107 (.int (i32 97)) rfl (fun _ => rfl) ?_
      refine P_op 108 (cut (v2 - 97)) _ rfl (fun _ => rfl) o_sub ?_
      refine P_ld 110 (.int (i32 10)) rfl (fun _ => rfl) ?_
      refine P_op 111 (cut ((cut (v2 - 97)) + 10)) _ rfl (fun _ => rfl) o_add ?_
      refine P_lv (b := [(0, .ref 6), (1, .int (i32 u0)), (2, .int (i32 v2)), (3, .int (i32 v3))]) rfl rfl ⟨rfl, rfl, rfl, rfl, trivial⟩ ?_
      exact dg_tx_scanHex_111 w c N D bb u0 (shl64 (m.1 208) 4) (cut ((cut (v2 - 97)) + 10)) r0 t64_r cut_r m hm (jk [(2, v2), (3, v3)]) Q2 H1 H2
    · skip
      refine P_ld 98 (.int (i32 v2)) rfl (fun _ => rfl) ?_
      refine P_ld 100 (.int (i32 48)) rfl (fun _ => rfl) ?_
      refine P_op 101 (cut (v2 - 48)) _ rfl (fun _ => rfl) o_sub ?_
      refine P_goto 111 rfl (fun _ => rfl) ?_
      refine P_lv (b := [(0, .ref 6), (1, .int (i32 u0)), (2, .int (i32 v2)), (3, .int (i32 v3))]) rfl rfl ⟨rfl, rfl, rfl, rfl, trivial⟩ ?_
      exact dg_tx_scanHex_111 w c N D bb u0 (shl64 (m.1 208) 4) (cut (v2 - 48)) r0 t64_r cut_r m hm (jk [(2, v2), (3, v3)]) Q2 H1 H2
def kfl_tx_scanHex_80 (v2 : Int) (v3 : Int) (m : mR) : Option (Sum (Int × mR) (mR)) :=
  kfl_tx_scanHex_81 v2 v3 0 m
theorem dg_tx_scanHex_80 (w : wX) (c : Nat → Option am_C) (N D : Nat) (bb : Nat) (v2 : Int) (v3 : Int) (q2 : R32 v2) (q3 : R32 v3) (m : mR) (hm : KCn m) (j : Nat → Int) (Q2 : Sum (Int × mR) (mR) → ag_Re af_T → Prop) (H1 : ∀ s j, cs_tx_scanHex_17 s → PP bb w D pm_54 (hd_tx_scanHex_17 c N s j) (Q2 (.inl s))) (H2 : ∀ x j, cx_tx_scanHex_17 x → PP bb w D pm_54 (ex_tx_scanHex_17 c N x j) (Q2 (.inr x))) : PP bb w D pm_54 (80, [(0, .ref 6), (1, .int (i32 (j 1))), (2, .int (i32 v2)), (3, .int (i32 v3))], [], (khp m c, N), 0, 0) (QS Q2 (kfl_tx_scanHex_80 v2 v3 m)) := by
  unfold kfl_tx_scanHex_80
  show PP bb w D pm_54 (80, [(0, .ref 6), (1, .int (i32 (j 1))), (2, .int (i32 v2)), (3, .int (i32 v3))], [], (khp (mO m [] []) c, N), 0, 0) _
  refine P_ld 81 (.int (i32 0)) rfl (fun _ => rfl) ?_
  exact dg_tx_scanHex_81 w c N D bb v2 v3 0 q2 q3 (l32 0 rfl) m hm (jk [(1, j 1)]) Q2 H1 H2
def kfl_tx_scanHex_76 (v2 : Int) (v3 : Int) (m : mR) : Option (Sum (Int × mR) (mR)) :=
  kfl_tx_scanHex_81 v2 v3 1 m
theorem dg_tx_scanHex_76 (w : wX) (c : Nat → Option am_C) (N D : Nat) (bb : Nat) (v2 : Int) (v3 : Int) (q2 : R32 v2) (q3 : R32 v3) (m : mR) (hm : KCn m) (j : Nat → Int) (Q2 : Sum (Int × mR) (mR) → ag_Re af_T → Prop) (H1 : ∀ s j, cs_tx_scanHex_17 s → PP bb w D pm_54 (hd_tx_scanHex_17 c N s j) (Q2 (.inl s))) (H2 : ∀ x j, cx_tx_scanHex_17 x → PP bb w D pm_54 (ex_tx_scanHex_17 c N x j) (Q2 (.inr x))) : PP bb w D pm_54 (76, [(0, .ref 6), (1, .int (i32 (j 1))), (2, .int (i32 v2)), (3, .int (i32 v3))], [], (khp m c, N), 0, 0) (QS Q2 (kfl_tx_scanHex_76 v2 v3 m)) := by
  unfold kfl_tx_scanHex_76
  show PP bb w D pm_54 (76, [(0, .ref 6), (1, .int (i32 (j 1))), (2, .int (i32 v2)), (3, .int (i32 v3))], [], (khp (mO m [] []) c, N), 0, 0) _
  refine P_ld 77 (.int (i32 1)) rfl (fun _ => rfl) ?_
  refine P_goto 81 rfl (fun _ => rfl) ?_
  exact dg_tx_scanHex_81 w c N D bb v2 v3 1 q2 q3 (l32 1 rfl) m hm (jk [(1, j 1)]) Q2 H1 H2
def kfl_tx_scanHex_59 (v2 : Int) (u0 : Int) (m : mR) : Option (Sum (Int × mR) (mR)) :=
  if u0 = 0 then
    if v2 < 97 then
      kfl_tx_scanHex_80 v2 u0 m
    else
      if (102 : Int) < v2 then
        kfl_tx_scanHex_80 v2 u0 m
      else
        kfl_tx_scanHex_76 v2 u0 m
  else
    kfl_tx_scanHex_76 v2 u0 m
theorem dg_tx_scanHex_59 (w : wX) (c : Nat → Option am_C) (N D : Nat) (bb : Nat) (v2 : Int) (u0 : Int) (q2 : R32 v2) (r0 : R32 u0) (m : mR) (hm : KCn m) (j : Nat → Int) (Q2 : Sum (Int × mR) (mR) → ag_Re af_T → Prop) (H1 : ∀ s j, cs_tx_scanHex_17 s → PP bb w D pm_54 (hd_tx_scanHex_17 c N s j) (Q2 (.inl s))) (H2 : ∀ x j, cx_tx_scanHex_17 x → PP bb w D pm_54 (ex_tx_scanHex_17 c N x j) (Q2 (.inr x))) : PP bb w D pm_54 (59, [(0, .ref 6), (1, .int (i32 (j 1))), (2, .int (i32 v2)), (3, .int (i32 (j 3)))], [.int (i32 u0)], (khp m c, N), 0, 0) (QS Q2 (kfl_tx_scanHex_59 v2 u0 m)) := by
  unfold kfl_tx_scanHex_59
  show PP bb w D pm_54 (59, [(0, .ref 6), (1, .int (i32 (j 1))), (2, .int (i32 v2)), (3, .int (i32 (j 3)))], [.int (i32 u0)], (khp (mO m [] []) c, N), 0, 0) _
  refine P_sto 60 [(3, .int (i32 u0)), (0, .ref 6), (1, .int (i32 (j 1))), (2, .int (i32 v2))] rfl (fun _ => rfl) ?_
  refine P_ld 61 (.int (i32 u0)) rfl (fun _ => rfl) ?_
  refine P_ifE 76 64 rfl rfl rfl r0 rfl (fun h6 => ?_) (fun h6 => ?_)
  · skip
    refine P_ld 65 (.int (i32 v2)) rfl (fun _ => rfl) ?_
    refine P_ld 67 (.int (i32 97)) rfl (fun _ => rfl) ?_
    refine P_icF 80 70 rfl rfl rfl q2 (l32 97 rfl) rfl (fun h7 => ?_) (fun h7 => ?_)
    · skip
      refine P_lv (b := [(0, .ref 6), (1, .int (i32 (j 1))), (2, .int (i32 v2)), (3, .int (i32 u0))]) rfl rfl ⟨rfl, rfl, rfl, rfl, trivial⟩ ?_
      exact dg_tx_scanHex_80 w c N D bb v2 u0 q2 r0 m hm (jk [(1, j 1)]) Q2 H1 H2
    · skip
      refine P_ld 71 (.int (i32 v2)) rfl (fun _ => rfl) ?_
      refine P_ld 73 (.int (i32 102)) rfl (fun _ => rfl) ?_
      refine P_icF 80 76 rfl rfl rfl q2 (l32 102 rfl) rfl (fun h8 => ?_) (fun h8 => ?_)
      · skip
        refine P_lv (b := [(0, .ref 6), (1, .int (i32 (j 1))), (2, .int (i32 v2)), (3, .int (i32 u0))]) rfl rfl ⟨rfl, rfl, rfl, rfl, trivial⟩ ?_
        exact dg_tx_scanHex_80 w c N D bb v2 u0 q2 r0 m hm (jk [(1, j 1)]) Q2 H1 H2
      · skip
        refine P_lv (b := [(0, .ref 6), (1, .int (i32 (j 1))), (2, .int (i32 v2)), (3, .int (i32 u0))]) rfl rfl ⟨rfl, rfl, rfl, rfl, trivial⟩ ?_
        exact dg_tx_scanHex_76 w c N D bb v2 u0 q2 r0 m hm (jk [(1, j 1)]) Q2 H1 H2
  · skip
    refine P_lv (b := [(0, .ref 6), (1, .int (i32 (j 1))), (2, .int (i32 v2)), (3, .int (i32 u0))]) rfl rfl ⟨rfl, rfl, rfl, rfl, trivial⟩ ?_
    exact dg_tx_scanHex_76 w c N D bb v2 u0 q2 r0 m hm (jk [(1, j 1)]) Q2 H1 H2
def kfl_tx_scanHex_58 (v2 : Int) (m : mR) : Option (Sum (Int × mR) (mR)) :=
  kfl_tx_scanHex_59 v2 0 m
theorem dg_tx_scanHex_58 (w : wX) (c : Nat → Option am_C) (N D : Nat) (bb : Nat) (v2 : Int) (q2 : R32 v2) (m : mR) (hm : KCn m) (j : Nat → Int) (Q2 : Sum (Int × mR) (mR) → ag_Re af_T → Prop) (H1 : ∀ s j, cs_tx_scanHex_17 s → PP bb w D pm_54 (hd_tx_scanHex_17 c N s j) (Q2 (.inl s))) (H2 : ∀ x j, cx_tx_scanHex_17 x → PP bb w D pm_54 (ex_tx_scanHex_17 c N x j) (Q2 (.inr x))) : PP bb w D pm_54 (58, [(0, .ref 6), (1, .int (i32 (j 1))), (2, .int (i32 v2)), (3, .int (i32 (j 3)))], [], (khp m c, N), 0, 0) (QS Q2 (kfl_tx_scanHex_58 v2 m)) := by
  unfold kfl_tx_scanHex_58
  show PP bb w D pm_54 (58, [(0, .ref 6), (1, .int (i32 (j 1))), (2, .int (i32 v2)), (3, .int (i32 (j 3)))], [], (khp (mO m [] []) c, N), 0, 0) _
  refine P_ld 59 (.int (i32 0)) rfl (fun _ => rfl) ?_
  exact dg_tx_scanHex_59 w c N D bb v2 0 q2 (l32 0 rfl) m hm (jk [(1, j 1), (3, j 3)]) Q2 H1 H2
def kfb_tx_scanHex_17 (s : Int × mR) : Option (Sum (Int × mR) (mR)) :=
  if s.1 = 0 then
    some (.inr s.2)
  else
    if s.2.1 204 ≤ s.2.1 205 then
      some (.inr s.2)
    else
      if (s.2.2 1) (s.2.1 205) < 48 then
        kfl_tx_scanHex_58 ((s.2.2 1) (s.2.1 205)) s.2
      else
        if (57 : Int) < (s.2.2 1) (s.2.1 205) then
          kfl_tx_scanHex_58 ((s.2.2 1) (s.2.1 205)) s.2
        else
          kfl_tx_scanHex_59 ((s.2.2 1) (s.2.1 205)) 1 s.2
theorem dh_tx_scanHex_17 (w : wX) (c : Nat → Option am_C) (N D : Nat) (bb : Nat) (Q2 : Sum (Int × mR) (mR) → ag_Re af_T → Prop) (H1 : ∀ s j, cs_tx_scanHex_17 s → PP bb w D pm_54 (hd_tx_scanHex_17 c N s j) (Q2 (.inl s))) (H2 : ∀ x j, cx_tx_scanHex_17 x → PP bb w D pm_54 (ex_tx_scanHex_17 c N x j) (Q2 (.inr x))) (s : Int × mR) (j : Nat → Int) (hs : cs_tx_scanHex_17 s) : PP (bb + 1) w D pm_54 (hd_tx_scanHex_17 c N s j) (QS Q2 (kfb_tx_scanHex_17 s)) := by
  obtain ⟨g1, gm⟩ := hs
  unfold kfb_tx_scanHex_17
  show PP (bb + 1) w D pm_54 (17, [(0, .ref 6), (1, .int (i32 s.1)), (2, .int (i32 (j 2))), (3, .int (i32 (j 3)))], [], (khp (mO s.2 [] []) c, N), 0, 0) _
  refine P1_ld 18 (.int (i32 s.1)) rfl (fun _ => rfl) ?_
  refine P_ifF 129 21 rfl rfl rfl g1 rfl (fun h10 => ?_) (fun h10 => ?_)
  · skip
    refine P_some ?_
    exact H2 s.2 (jk [(1, s.1), (2, j 2), (3, j 3)]) gm
  · skip
    refine P_ld 22 (.ref 6) rfl (fun _ => rfl) ?_
    refine PK_gf 25 (.int (i32 (s.2.1 205))) rfl rfl kd_6 rfl rfl rfl ?_
    refine P_ld 26 (.ref 6) rfl (fun _ => rfl) ?_
    refine PK_gf 29 (.int (i32 (s.2.1 204))) rfl rfl kd_6 rfl rfl rfl ?_
    refine P_icF 129 32 rfl rfl rfl (KCn_i gm 205 rfl) (KCn_i gm 204 rfl) rfl (fun h11 => ?_) (fun h11 => ?_)
    · skip
      refine P_some ?_
      exact H2 s.2 (jk [(1, s.1), (2, j 2), (3, j 3)]) gm
    · skip
      refine P_ld 33 (.ref 6) rfl (fun _ => rfl) ?_
      refine PK_gf 36 (.ref 2) rfl rfl kd_6 rfl rfl rfl ?_
      refine P_ld 37 (.ref 6) rfl (fun _ => rfl) ?_
      refine PK_gf 40 (.int (i32 (s.2.1 205))) rfl rfl kd_6 rfl rfl rfl ?_
      refine PK_bald2 41 1 (s.2.2 1) rfl rfl rfl (KCn_i gm 205 rfl) rfl ?_
      refine P_sto 42 [(2, .int (i32 ((s.2.2 1) (s.2.1 205)))), (0, .ref 6), (1, .int (i32 s.1)), (3, .int (i32 (j 3)))] rfl (fun _ => rfl) ?_
      refine P_ld 43 (.int (i32 ((s.2.2 1) (s.2.1 205)))) rfl (fun _ => rfl) ?_
      refine P_ld 45 (.int (i32 48)) rfl (fun _ => rfl) ?_
      refine P_icF 58 48 rfl rfl rfl (kE_i (KCn_a gm 1) rfl _) (l32 48 rfl) rfl (fun h12 => ?_) (fun h12 => ?_)
      · skip
        refine P_lv (b := [(0, .ref 6), (1, .int (i32 s.1)), (2, .int (i32 ((s.2.2 1) (s.2.1 205)))), (3, .int (i32 (j 3)))]) rfl rfl ⟨rfl, rfl, rfl, rfl, trivial⟩ ?_
        exact dg_tx_scanHex_58 w c N D bb ((s.2.2 1) (s.2.1 205)) (kE_i (KCn_a gm 1) rfl _) s.2 gm (jk [(1, s.1), (3, j 3)]) Q2 H1 H2
      · skip
        refine P_ld 49 (.int (i32 ((s.2.2 1) (s.2.1 205)))) rfl (fun _ => rfl) ?_
        refine P_ld 51 (.int (i32 57)) rfl (fun _ => rfl) ?_
        refine P_icF 58 54 rfl rfl rfl (kE_i (KCn_a gm 1) rfl _) (l32 57 rfl) rfl (fun h13 => ?_) (fun h13 => ?_)
        · skip
          refine P_lv (b := [(0, .ref 6), (1, .int (i32 s.1)), (2, .int (i32 ((s.2.2 1) (s.2.1 205)))), (3, .int (i32 (j 3)))]) rfl rfl ⟨rfl, rfl, rfl, rfl, trivial⟩ ?_
          exact dg_tx_scanHex_58 w c N D bb ((s.2.2 1) (s.2.1 205)) (kE_i (KCn_a gm 1) rfl _) s.2 gm (jk [(1, s.1), (3, j 3)]) Q2 H1 H2
        · skip
          refine P_ld 55 (.int (i32 1)) rfl (fun _ => rfl) ?_
          refine P_goto 59 rfl (fun _ => rfl) ?_
          refine P_lv (b := [(0, .ref 6), (1, .int (i32 s.1)), (2, .int (i32 ((s.2.2 1) (s.2.1 205)))), (3, .int (i32 (j 3)))]) rfl rfl ⟨rfl, rfl, rfl, rfl, trivial⟩ ?_
          exact dg_tx_scanHex_59 w c N D bb ((s.2.2 1) (s.2.1 205)) 1 (kE_i (KCn_a gm 1) rfl _) (l32 1 rfl) s.2 gm (jk [(1, s.1), (3, j 3)]) Q2 H1 H2
def kf_tx_scanHex (m : mR) : Option (Int × mR) :=
  bnd (whl kfb_tx_scanHex_17 (1, (mO m [(205, cut ((m.1 205) + 2)), (208, 0)] []))) (fun e14 : mR =>
    kfl_tx_scanHex_129 e14)
theorem D_tx_scanHex (w : wX) (m : mR) (c : Nat → Option am_C) (N D : Nat) (hm : KCn m) : PC w D 54 [.ref 6] (khp m c, N) (QS (FK1 c N) (kf_tx_scanHex m)) := by
  refine Pc_of (fun D bb => ?_) D
  unfold kf_tx_scanHex
  show PP bb w D pm_54 (0, [(0, .ref 6)], [], (khp (mO m [] []) c, N), 0, 0) _
  refine P_ld 1 (.ref 6) rfl (fun _ => rfl) ?_
  refine P_ld 2 (.long (i64 0)) rfl (fun _ => rfl) ?_
  refine PK_pf (l' := [(208, 0)]) 5 0 rfl rfl kd_6 rfl rfl rfl rfl rfl rfl rfl ?_
  refine P_ld 6 (.ref 6) rfl (fun _ => rfl) ?_
  refine P_ld 7 (.ref 6) rfl (fun _ => rfl) ?_
  refine PK_gf 10 (.int (i32 (m.1 205))) rfl rfl kd_6 rfl rfl rfl ?_
  refine P_ld 11 (.int (i32 2)) rfl (fun _ => rfl) ?_
  refine P_op 12 (cut ((m.1 205) + 2)) _ rfl (fun _ => rfl) o_add ?_
  refine PK_pf (l' := [(205, cut ((m.1 205) + 2)), (208, 0)]) 15 (cut ((m.1 205) + 2)) rfl rfl kd_6 rfl rfl rfl rfl rfl rfl rfl ?_
  refine P_ld 16 (.int (i32 1)) rfl (fun _ => rfl) ?_
  refine P_sto 17 [(1, .int (i32 1)), (0, .ref 6)] rfl (fun _ => rfl) ?_
  refine P_lv (b := [(0, .ref 6), (1, .int (i32 1)), (2, .int (i32 0)), (3, .int (i32 0))]) rfl rfl ⟨rfl, rfl, trivial⟩ ?_
  refine P_bnd ?_
  refine P_whl (fun bb Q2 H1 H2 s9 j9 hs9 => dh_tx_scanHex_17 w c N D bb Q2 H1 H2 s9 j9 hs9) bb (fun e14 j q15 => ?_) (1, (mO m [(205, cut ((m.1 205) + 2)), (208, 0)] [])) (jk []) ⟨(l32 1 rfl), (KCn_mO hm rfl rfl ⟨(kV_i rfl cut_r), (kV_l rfl (l64 0 rfl)), trivial⟩ trivial)⟩
  have q16 := q15
  show PP bb w D pm_54 (129, [(0, .ref 6), (1, .int (i32 (j 1))), (2, .int (i32 (j 2))), (3, .int (i32 (j 3)))], [], (khp (mO e14 [] []) c, N), 0, 0) (QS _ (kfl_tx_scanHex_129 e14))
  exact dg_tx_scanHex_129 w c N D bb e14 q16 (jk [(1, j 1), (2, j 2), (3, j 3)])
end X28C
