noncomputable section X28B
def kfl_String_coder_b20004_14 (u0 : Int) (m : mR) : Option Int :=
  some u0
theorem dg_String_coder_b20004_14 (w : wX) (c : Nat → Option am_C) (N D : Nat) (bb : Nat) (u0 : Int) (r0 : R32 u0) (m : mR) (hm : KCn m) (j : Nat → Int) : PP bb w D pm_4 (14, [(0, .ref 1000009)], [.int (i32 u0)], (khp m c, N), 0, 0) (QS (FP1 (khp m c, N)) (kfl_String_coder_b20004_14 u0 m)) := by
  unfold kfl_String_coder_b20004_14
  show PP bb w D pm_4 (14, [(0, .ref 1000009)], [.int (i32 u0)], (khp (mO m [] []) c, N), 0, 0) _
  exact P_rp1 rfl r0
def kf_String_coder_b20004 (m : mR) : Option Int :=
  kfl_String_coder_b20004_14 0 m
theorem D_String_coder_b20004 (w : wX) (m : mR) (c : Nat → Option am_C) (N D : Nat) (hm : KCn m) : PC w D 4 [.ref 1000009] (khp m c, N) (QS (FP1 (khp m c, N)) (kf_String_coder_b20004 m)) := by
  refine Pc_of (fun D bb => ?_) D
  unfold kf_String_coder_b20004
  show PP bb w D pm_4 (0, [(0, .ref 1000009)], [], (khp (mO m [] []) c, N), 0, 0) _
  refine P_ld 3 (.int (i32 1)) rfl (fun _ => rfl) ?_
  refine P_ifN 13 6 rfl rfl rfl (l32 1 rfl) (by unfold cz; decide) ?_
  refine P_ld 7 (.ref 1000009) rfl (fun _ => rfl) ?_
  refine P_ld1 10 (.int (i32 0)) rfl (fun _ => rfl) ?_
  refine P_goto 14 rfl (fun _ => rfl) ?_
  exact dg_String_coder_b20004_14 w c N D bb 0 (l32 0 rfl) m hm (jk [])
def kf_String_length_b20004 (m : mR) : Option Int :=
  some (shr32 6 0)
theorem D_String_length_b20004 (w : wX) (m : mR) (c : Nat → Option am_C) (N D : Nat) (hm : KCn m) : PC w D 3 [.ref 1000009] (khp m c, N) (QS (FP1 (khp m c, N)) (kf_String_length_b20004 m)) := by
  refine Pc_of (fun D bb => ?_) D
  unfold kf_String_length_b20004
  show PP bb w D pm_3 (0, [(0, .ref 1000009)], [], (khp (mO m [] []) c, N), 0, 0) _
  refine P_ld 1 (.ref 1000009) rfl (fun _ => rfl) ?_
  refine P_ld1 4 (.ref 1000010) rfl (fun _ => rfl) ?_
  refine P_ld1 5 (.int (i32 6)) rfl (fun _ => rfl) ?_
  refine P_ld 6 (.ref 1000009) rfl (fun _ => rfl) ?_
  refine P_cq1 9 4 [.ref 1000009] [.int (i32 6)] 0 rfl (fun _ => rfl) rfl (D_String_coder_b20004 w m c N D hm) rfl ?_
  refine P_op 10 (shr32 6 0) _ rfl (fun _ => rfl) (i32_of _).symm ?_
  exact P_rp1 rfl t32_r
def kfl_String_isLatin1_b20004_18 (u0 : Int) (m : mR) : Option Int :=
  some u0
theorem dg_String_isLatin1_b20004_18 (w : wX) (c : Nat → Option am_C) (N D : Nat) (bb : Nat) (u0 : Int) (r0 : R32 u0) (m : mR) (hm : KCn m) (j : Nat → Int) : PP bb w D pm_6 (18, [(0, .ref 1000009)], [.int (i32 u0)], (khp m c, N), 0, 0) (QS (FP1 (khp m c, N)) (kfl_String_isLatin1_b20004_18 u0 m)) := by
  unfold kfl_String_isLatin1_b20004_18
  show PP bb w D pm_6 (18, [(0, .ref 1000009)], [.int (i32 u0)], (khp (mO m [] []) c, N), 0, 0) _
  exact P_rp1 rfl r0
def kf_String_isLatin1_b20004 (m : mR) : Option Int :=
  kfl_String_isLatin1_b20004_18 1 m
theorem D_String_isLatin1_b20004 (w : wX) (m : mR) (c : Nat → Option am_C) (N D : Nat) (hm : KCn m) : PC w D 6 [.ref 1000009] (khp m c, N) (QS (FP1 (khp m c, N)) (kf_String_isLatin1_b20004 m)) := by
  refine Pc_of (fun D bb => ?_) D
  unfold kf_String_isLatin1_b20004
  show PP bb w D pm_6 (0, [(0, .ref 1000009)], [], (khp (mO m [] []) c, N), 0, 0) _
  refine P_ld 3 (.int (i32 1)) rfl (fun _ => rfl) ?_
  refine P_ifN 17 6 rfl rfl rfl (l32 1 rfl) (by unfold cz; decide) ?_
  refine P_ld 7 (.ref 1000009) rfl (fun _ => rfl) ?_
  refine P_ld1 10 (.int (i32 0)) rfl (fun _ => rfl) ?_
  refine P_ifN 17 13 rfl rfl rfl (l32 0 rfl) (by unfold cz; decide) ?_
  refine P_ld 14 (.int (i32 1)) rfl (fun _ => rfl) ?_
  refine P_goto 18 rfl (fun _ => rfl) ?_
  exact dg_String_isLatin1_b20004_18 w c N D bb 1 (l32 1 rfl) m hm (jk [])
def kf_StringLatin1_charAt_b10004 (v1 : Int) (m : mR) : Option Int :=
  bnd (kf_String_checkIndex v1 6 m) fun y1 =>
  some (i2c32 (and32 (chr 4 v1) 255))
theorem D_StringLatin1_charAt_b10004 (w : wX) (m : mR) (c : Nat → Option am_C) (N D : Nat) (hm : KCn m) (v1 : Int) (q1 : R32 v1) : PC w D 7 [.ref 1000010, .int (i32 v1)] (khp m c, N) (QS (FP1 (khp m c, N)) (kf_StringLatin1_charAt_b10004 v1 m)) := by
  refine Pc_of (fun D bb => ?_) D
  unfold kf_StringLatin1_charAt_b10004
  show PP bb w D pm_7 (0, [(0, .ref 1000010), (1, .int (i32 v1))], [], (khp (mO m [] []) c, N), 0, 0) _
  refine P_ld 1 (.int (i32 v1)) rfl (fun _ => rfl) ?_
  refine P_ld 2 (.ref 1000010) rfl (fun _ => rfl) ?_
  refine P_ld1 3 (.int (i32 6)) rfl (fun _ => rfl) ?_
  refine P_cp0 6 8 [.int (i32 v1), .int (i32 6)] [] rfl (fun _ => rfl) rfl (D_String_checkIndex w m c N D hm v1 6 q1 (l32 6 rfl)) (fun y1 => ?_)
  refine P_ld 7 (.ref 1000010) rfl (fun _ => rfl) ?_
  refine P_ld 8 (.int (i32 v1)) rfl (fun _ => rfl) ?_
  refine P_xbald 9 4 6 rfl rfl rfl q1 ?_
  refine P_ld 12 (.int (i32 255)) rfl (fun _ => rfl) ?_
  refine P_op 13 (and32 (chr 4 v1) 255) _ rfl (fun _ => rfl) (i32_of _).symm ?_
  refine P_op 14 (i2c32 (and32 (chr 4 v1) 255)) _ rfl (fun _ => rfl) (i32_of _).symm ?_
  exact P_rp1 rfl t32_r
def kf_String_charAt_b20004 (v1 : Int) (m : mR) : Option Int :=
  bnd (kf_StringLatin1_charAt_b10004 v1 m) fun y2 =>
  some y2
theorem D_String_charAt_b20004 (w : wX) (m : mR) (c : Nat → Option am_C) (N D : Nat) (hm : KCn m) (v1 : Int) (q1 : R32 v1) : PC w D 5 [.ref 1000009, .int (i32 v1)] (khp m c, N) (QS (FP1 (khp m c, N)) (kf_String_charAt_b20004 v1 m)) := by
  refine Pc_of (fun D bb => ?_) D
  unfold kf_String_charAt_b20004
  show PP bb w D pm_5 (0, [(0, .ref 1000009), (1, .int (i32 v1))], [], (khp (mO m [] []) c, N), 0, 0) _
  refine P_ld 1 (.ref 1000009) rfl (fun _ => rfl) ?_
  refine P_cq1 4 6 [.ref 1000009] [] 1 rfl (fun _ => rfl) rfl (D_String_isLatin1_b20004 w m c N D hm) rfl ?_
  refine P_ifN 16 7 rfl rfl rfl (l32 1 rfl) (by unfold cz; decide) ?_
  refine P_ld 8 (.ref 1000009) rfl (fun _ => rfl) ?_
  refine P_ld1 11 (.ref 1000010) rfl (fun _ => rfl) ?_
  refine P_ld 12 (.int (i32 v1)) rfl (fun _ => rfl) ?_
  refine P_cp1 15 7 [.ref 1000010, .int (i32 v1)] [] rfl (fun _ => rfl) rfl (D_StringLatin1_charAt_b10004 w m c N D hm v1 q1) (fun y2 h3 => ?_)
  exact P_rp1 rfl h3
def cs_tx_makeGiven_b20004_13 (s : Int × mR) : Prop := R32 s.1 ∧ KCn s.2
def cx_tx_makeGiven_b20004_13 : (mR) → Prop := (fun (e : mR) => KCn e)
def hd_tx_makeGiven_b20004_13 (c : Nat → Option am_C) (N : Nat) (v2 : Int) (v3 : Int) (s : Int × mR) (j : Nat → Int) : ag_St af_T := (13, [(0, .ref 6), (1, .ref 1000009), (2, .int (i32 v2)), (3, .int (i32 v3)), (4, .int (i32 s.1))], [], (khp s.2 c, N), 0, 0)
def ex_tx_makeGiven_b20004_13 (c : Nat → Option am_C) (N : Nat) (v2 : Int) (v3 : Int) : (mR) → (Nat → Int) → ag_St af_T := (fun (e : mR) (j : Nat → Int) => ((60, [(0, .ref 6), (1, .ref 1000009), (2, .int (i32 v2)), (3, .int (i32 v3)), (4, .int (i32 (j 4)))], [], (khp e c, N), 0, 0) : ag_St af_T))
def kfl_tx_makeGiven_b20004_60 (v2 : Int) (v3 : Int) (m : mR) : Option (Int × mR) :=
  bnd (kf_tx_makeName v2 v3 m) fun y2 =>
  some (0, y2.2)
theorem dg_tx_makeGiven_b20004_60 (w : wX) (c : Nat → Option am_C) (N D : Nat) (bb : Nat) (v2 : Int) (v3 : Int) (q2 : R32 v2) (q3 : R32 v3) (m : mR) (hm : KCn m) (j : Nat → Int) : PP bb w D pm_48 (60, [(0, .ref 6), (1, .ref 1000009), (2, .int (i32 v2)), (3, .int (i32 v3)), (4, .int (i32 (j 4)))], [], (khp m c, N), 0, 0) (QS (FK0 c N) (kfl_tx_makeGiven_b20004_60 v2 v3 m)) := by
  unfold kfl_tx_makeGiven_b20004_60
  show PP bb w D pm_48 (60, [(0, .ref 6), (1, .ref 1000009), (2, .int (i32 v2)), (3, .int (i32 v3)), (4, .int (i32 (j 4)))], [], (khp (mO m [] []) c, N), 0, 0) _
  refine P_ld 61 (.ref 6) rfl (fun _ => rfl) ?_
  refine P_ld 62 (.int (i32 v2)) rfl (fun _ => rfl) ?_
  refine P_ld 63 (.int (i32 v3)) rfl (fun _ => rfl) ?_
  refine P_ck0 66 49 [.ref 6, .int (i32 v2), .int (i32 v3)] [] rfl (fun _ => rfl) rfl (D_tx_makeName w m c N D hm v2 v3 q2 q3) (fun y2 n4 => ?_)
  exact P_rk0 rfl rfl n4
def kfb_tx_makeGiven_b20004_13 (v2 : Int) (v3 : Int) (s : Int × mR) : Option (Sum (Int × mR) (mR)) :=
  bnd (kf_String_length_b20004 s.2) fun y6 =>
  if y6 ≤ s.1 then
    some (.inr s.2)
  else
    if (8 : Int) ≤ s.1 then
      some (.inr s.2)
    else
      bnd (kf_String_charAt_b20004 s.1 s.2) fun y11 =>
      some (.inl (cut (s.1 + 1), (mO s.2 [(209, or64 (s.2.1 209) (shl64 y11 (cut (56 - (cut (8 * s.1))))))] [])))
theorem dh_tx_makeGiven_b20004_13 (w : wX) (c : Nat → Option am_C) (N D : Nat) (v2 : Int) (v3 : Int) (q2 : R32 v2) (q3 : R32 v3) (bb : Nat) (Q2 : Sum (Int × mR) (mR) → ag_Re af_T → Prop) (H1 : ∀ s j, cs_tx_makeGiven_b20004_13 s → PP bb w D pm_48 (hd_tx_makeGiven_b20004_13 c N v2 v3 s j) (Q2 (.inl s))) (H2 : ∀ x j, cx_tx_makeGiven_b20004_13 x → PP bb w D pm_48 (ex_tx_makeGiven_b20004_13 c N v2 v3 x j) (Q2 (.inr x))) (s : Int × mR) (j : Nat → Int) (hs : cs_tx_makeGiven_b20004_13 s) : PP (bb + 1) w D pm_48 (hd_tx_makeGiven_b20004_13 c N v2 v3 s j) (QS Q2 (kfb_tx_makeGiven_b20004_13 v2 v3 s)) := by
  obtain ⟨g4, gm⟩ := hs
  unfold kfb_tx_makeGiven_b20004_13
  show PP (bb + 1) w D pm_48 (13, [(0, .ref 6), (1, .ref 1000009), (2, .int (i32 v2)), (3, .int (i32 v3)), (4, .int (i32 s.1))], [], (khp (mO s.2 [] []) c, N), 0, 0) _
  refine P1_ld 15 (.int (i32 s.1)) rfl (fun _ => rfl) ?_
  refine P_ld 16 (.ref 1000009) rfl (fun _ => rfl) ?_
  refine P_cp1 19 3 [.ref 1000009] [.int (i32 s.1)] rfl (fun _ => rfl) rfl (D_String_length_b20004 w s.2 c N D gm) (fun y6 h7 => ?_)
  refine P_icF 60 22 rfl rfl rfl g4 h7 rfl (fun h9 => ?_) (fun h9 => ?_)
  · skip
    refine P_some ?_
    exact H2 s.2 (jk [(4, s.1)]) gm
  · skip
    refine P_ld 24 (.int (i32 s.1)) rfl (fun _ => rfl) ?_
    refine P_ld 26 (.int (i32 8)) rfl (fun _ => rfl) ?_
    refine P_icF 60 29 rfl rfl rfl g4 (l32 8 rfl) rfl (fun h10 => ?_) (fun h10 => ?_)
    · skip
      refine P_some ?_
      exact H2 s.2 (jk [(4, s.1)]) gm
    · skip
      refine P_ld 30 (.ref 6) rfl (fun _ => rfl) ?_
      refine P_ld 31 (.ref 6) rfl (fun _ => rfl) ?_
      refine PK_gf 34 (.long (i64 (s.2.1 209))) rfl rfl kd_6 rfl rfl rfl ?_
      refine P_ld 35 (.ref 1000009) rfl (fun _ => rfl) ?_
      refine P_ld 37 (.int (i32 s.1)) rfl (fun _ => rfl) ?_
      refine P_cp1 40 5 [.ref 1000009, .int (i32 s.1)] [.long (i64 (s.2.1 209)), .ref 6] rfl (fun _ => rfl) rfl (D_String_charAt_b20004 w s.2 c N D gm s.1 g4) (fun y11 h12 => ?_)
      refine P_opl 41 y11 _ rfl (fun _ => rfl) (o_i2l h12) ?_
      refine P_ld 43 (.int (i32 56)) rfl (fun _ => rfl) ?_
      refine P_ld 45 (.int (i32 8)) rfl (fun _ => rfl) ?_
      refine P_ld 47 (.int (i32 s.1)) rfl (fun _ => rfl) ?_
      refine P_op 48 (cut (8 * s.1)) _ rfl (fun _ => rfl) o_mul ?_
      refine P_op 49 (cut (56 - (cut (8 * s.1)))) _ rfl (fun _ => rfl) o_sub ?_
      refine P_opl 50 (shl64 y11 (cut (56 - (cut (8 * s.1))))) _ rfl (fun _ => rfl) (Int64.ofInt_toInt _).symm ?_
      refine P_opl 51 (or64 (s.2.1 209) (shl64 y11 (cut (56 - (cut (8 * s.1)))))) _ rfl (fun _ => rfl) (Int64.ofInt_toInt _).symm ?_
      refine PK_pf (l' := [(209, or64 (s.2.1 209) (shl64 y11 (cut (56 - (cut (8 * s.1))))))]) 54 (or64 (s.2.1 209) (shl64 y11 (cut (56 - (cut (8 * s.1)))))) rfl rfl kd_6 rfl rfl rfl rfl rfl rfl rfl ?_
      refine P_inc 57 [(4, .int (i32 (cut (s.1 + 1)))), (0, .ref 6), (1, .ref 1000009), (2, .int (i32 v2)), (3, .int (i32 v3))] rfl rfl (by decide) rfl rfl ?_
      refine P_goto 13 rfl (fun _ => rfl) ?_
      refine P_some ?_
      refine P_lv (b := [(0, .ref 6), (1, .ref 1000009), (2, .int (i32 v2)), (3, .int (i32 v3)), (4, .int (i32 (cut (s.1 + 1))))]) rfl rfl ⟨rfl, rfl, rfl, rfl, rfl, trivial⟩ ?_
      exact H1 (cut (s.1 + 1), (mO s.2 [(209, or64 (s.2.1 209) (shl64 y11 (cut (56 - (cut (8 * s.1))))))] [])) (jk []) ⟨cut_r, (KCn_mO gm rfl rfl ⟨(kV_l rfl t64_r), trivial⟩ trivial)⟩
def kf_tx_makeGiven_b20004 (v2 : Int) (v3 : Int) (m : mR) : Option (Int × mR) :=
  bnd (whl (kfb_tx_makeGiven_b20004_13 v2 v3) (0, (mO m [(209, 0), (210, 0)] []))) (fun e14 : mR =>
    kfl_tx_makeGiven_b20004_60 v2 v3 e14)
theorem D_tx_makeGiven_b20004 (w : wX) (m : mR) (c : Nat → Option am_C) (N D : Nat) (hm : KCn m) (v2 : Int) (v3 : Int) (q2 : R32 v2) (q3 : R32 v3) : PC w D 48 [.ref 6, .ref 1000009, .int (i32 v2), .int (i32 v3)] (khp m c, N) (QS (FK0 c N) (kf_tx_makeGiven_b20004 v2 v3 m)) := by
  refine Pc_of (fun D bb => ?_) D
  unfold kf_tx_makeGiven_b20004
  show PP bb w D pm_48 (0, [(0, .ref 6), (1, .ref 1000009), (2, .int (i32 v2)), (3, .int (i32 v3))], [], (khp (mO m [] []) c, N), 0, 0) _
  refine P_ld 1 (.ref 6) rfl (fun _ => rfl) ?_
  refine P_ld 2 (.long (i64 0)) rfl (fun _ => rfl) ?_
  refine PK_pf (l' := [(209, 0)]) 5 0 rfl rfl kd_6 rfl rfl rfl rfl rfl rfl rfl ?_
  refine P_ld 6 (.ref 6) rfl (fun _ => rfl) ?_
  refine P_ld 7 (.long (i64 0)) rfl (fun _ => rfl) ?_
  refine PK_pf (l' := [(209, 0), (210, 0)]) 10 0 rfl rfl kd_6 rfl rfl rfl rfl rfl rfl rfl ?_
  refine P_ld 11 (.int (i32 0)) rfl (fun _ => rfl) ?_
  refine P_sto 13 [(4, .int (i32 0)), (0, .ref 6), (1, .ref 1000009), (2, .int (i32 v2)), (3, .int (i32 v3))] rfl (fun _ => rfl) ?_
  refine P_lv (b := [(0, .ref 6), (1, .ref 1000009), (2, .int (i32 v2)), (3, .int (i32 v3)), (4, .int (i32 0))]) rfl rfl ⟨rfl, rfl, rfl, rfl, rfl, trivial⟩ ?_
  refine P_bnd ?_
  refine P_whl (fun bb Q2 H1 H2 s9 j9 hs9 => dh_tx_makeGiven_b20004_13 w c N D v2 v3 q2 q3 bb Q2 H1 H2 s9 j9 hs9) bb (fun e14 j q15 => ?_) (0, (mO m [(209, 0), (210, 0)] [])) (jk []) ⟨(l32 0 rfl), (KCn_mO hm rfl rfl ⟨(kV_l rfl (l64 0 rfl)), (kV_l rfl (l64 0 rfl)), trivial⟩ trivial)⟩
  have q16 := q15
  show PP bb w D pm_48 (60, [(0, .ref 6), (1, .ref 1000009), (2, .int (i32 v2)), (3, .int (i32 v3)), (4, .int (i32 (j 4)))], [], (khp (mO e14 [] []) c, N), 0, 0) (QS _ (kfl_tx_makeGiven_b20004_60 v2 v3 e14))
  exact dg_tx_makeGiven_b20004_60 w c N D bb v2 v3 q2 q3 e14 q16 (jk [(4, j 4)])
def kfl_String_coder_b20005_14 (u0 : Int) (m : mR) : Option Int :=
  some u0
theorem dg_String_coder_b20005_14 (w : wX) (c : Nat → Option am_C) (N D : Nat) (bb : Nat) (u0 : Int) (r0 : R32 u0) (m : mR) (hm : KCn m) (j : Nat → Int) : PP bb w D pm_4 (14, [(0, .ref 1000011)], [.int (i32 u0)], (khp m c, N), 0, 0) (QS (FP1 (khp m c, N)) (kfl_String_coder_b20005_14 u0 m)) := by
  unfold kfl_String_coder_b20005_14
  show PP bb w D pm_4 (14, [(0, .ref 1000011)], [.int (i32 u0)], (khp (mO m [] []) c, N), 0, 0) _
  exact P_rp1 rfl r0
def kf_String_coder_b20005 (m : mR) : Option Int :=
  kfl_String_coder_b20005_14 0 m
theorem D_String_coder_b20005 (w : wX) (m : mR) (c : Nat → Option am_C) (N D : Nat) (hm : KCn m) : PC w D 4 [.ref 1000011] (khp m c, N) (QS (FP1 (khp m c, N)) (kf_String_coder_b20005 m)) := by
  refine Pc_of (fun D bb => ?_) D
  unfold kf_String_coder_b20005
  show PP bb w D pm_4 (0, [(0, .ref 1000011)], [], (khp (mO m [] []) c, N), 0, 0) _
  refine P_ld 3 (.int (i32 1)) rfl (fun _ => rfl) ?_
  refine P_ifN 13 6 rfl rfl rfl (l32 1 rfl) (by unfold cz; decide) ?_
  refine P_ld 7 (.ref 1000011) rfl (fun _ => rfl) ?_
  refine P_ld1 10 (.int (i32 0)) rfl (fun _ => rfl) ?_
  refine P_goto 14 rfl (fun _ => rfl) ?_
  exact dg_String_coder_b20005_14 w c N D bb 0 (l32 0 rfl) m hm (jk [])
def kf_String_length_b20005 (m : mR) : Option Int :=
  some (shr32 6 0)
theorem D_String_length_b20005 (w : wX) (m : mR) (c : Nat → Option am_C) (N D : Nat) (hm : KCn m) : PC w D 3 [.ref 1000011] (khp m c, N) (QS (FP1 (khp m c, N)) (kf_String_length_b20005 m)) := by
  refine Pc_of (fun D bb => ?_) D
  unfold kf_String_length_b20005
  show PP bb w D pm_3 (0, [(0, .ref 1000011)], [], (khp (mO m [] []) c, N), 0, 0) _
  refine P_ld 1 (.ref 1000011) rfl (fun _ => rfl) ?_
  refine P_ld1 4 (.ref 1000012) rfl (fun _ => rfl) ?_
  refine P_ld1 5 (.int (i32 6)) rfl (fun _ => rfl) ?_
  refine P_ld 6 (.ref 1000011) rfl (fun _ => rfl) ?_
  refine P_cq1 9 4 [.ref 1000011] [.int (i32 6)] 0 rfl (fun _ => rfl) rfl (D_String_coder_b20005 w m c N D hm) rfl ?_
  refine P_op 10 (shr32 6 0) _ rfl (fun _ => rfl) (i32_of _).symm ?_
  exact P_rp1 rfl t32_r
def kfl_String_isLatin1_b20005_18 (u0 : Int) (m : mR) : Option Int :=
  some u0
theorem dg_String_isLatin1_b20005_18 (w : wX) (c : Nat → Option am_C) (N D : Nat) (bb : Nat) (u0 : Int) (r0 : R32 u0) (m : mR) (hm : KCn m) (j : Nat → Int) : PP bb w D pm_6 (18, [(0, .ref 1000011)], [.int (i32 u0)], (khp m c, N), 0, 0) (QS (FP1 (khp m c, N)) (kfl_String_isLatin1_b20005_18 u0 m)) := by
  unfold kfl_String_isLatin1_b20005_18
  show PP bb w D pm_6 (18, [(0, .ref 1000011)], [.int (i32 u0)], (khp (mO m [] []) c, N), 0, 0) _
  exact P_rp1 rfl r0
def kf_String_isLatin1_b20005 (m : mR) : Option Int :=
  kfl_String_isLatin1_b20005_18 1 m
theorem D_String_isLatin1_b20005 (w : wX) (m : mR) (c : Nat → Option am_C) (N D : Nat) (hm : KCn m) : PC w D 6 [.ref 1000011] (khp m c, N) (QS (FP1 (khp m c, N)) (kf_String_isLatin1_b20005 m)) := by
  refine Pc_of (fun D bb => ?_) D
  unfold kf_String_isLatin1_b20005
  show PP bb w D pm_6 (0, [(0, .ref 1000011)], [], (khp (mO m [] []) c, N), 0, 0) _
  refine P_ld 3 (.int (i32 1)) rfl (fun _ => rfl) ?_
  refine P_ifN 17 6 rfl rfl rfl (l32 1 rfl) (by unfold cz; decide) ?_
  refine P_ld 7 (.ref 1000011) rfl (fun _ => rfl) ?_
  refine P_ld1 10 (.int (i32 0)) rfl (fun _ => rfl) ?_
  refine P_ifN 17 13 rfl rfl rfl (l32 0 rfl) (by unfold cz; decide) ?_
  refine P_ld 14 (.int (i32 1)) rfl (fun _ => rfl) ?_
  refine P_goto 18 rfl (fun _ => rfl) ?_
  exact dg_String_isLatin1_b20005_18 w c N D bb 1 (l32 1 rfl) m hm (jk [])
def kf_StringLatin1_charAt_b10005 (v1 : Int) (m : mR) : Option Int :=
  bnd (kf_String_checkIndex v1 6 m) fun y1 =>
  some (i2c32 (and32 (chr 5 v1) 255))
theorem D_StringLatin1_charAt_b10005 (w : wX) (m : mR) (c : Nat → Option am_C) (N D : Nat) (hm : KCn m) (v1 : Int) (q1 : R32 v1) : PC w D 7 [.ref 1000012, .int (i32 v1)] (khp m c, N) (QS (FP1 (khp m c, N)) (kf_StringLatin1_charAt_b10005 v1 m)) := by
  refine Pc_of (fun D bb => ?_) D
  unfold kf_StringLatin1_charAt_b10005
  show PP bb w D pm_7 (0, [(0, .ref 1000012), (1, .int (i32 v1))], [], (khp (mO m [] []) c, N), 0, 0) _
  refine P_ld 1 (.int (i32 v1)) rfl (fun _ => rfl) ?_
  refine P_ld 2 (.ref 1000012) rfl (fun _ => rfl) ?_
  refine P_ld1 3 (.int (i32 6)) rfl (fun _ => rfl) ?_
  refine P_cp0 6 8 [.int (i32 v1), .int (i32 6)] [] rfl (fun _ => rfl) rfl (D_String_checkIndex w m c N D hm v1 6 q1 (l32 6 rfl)) (fun y1 => ?_)
  refine P_ld 7 (.ref 1000012) rfl (fun _ => rfl) ?_
  refine P_ld 8 (.int (i32 v1)) rfl (fun _ => rfl) ?_
  refine P_xbald 9 5 6 rfl rfl rfl q1 ?_
  refine P_ld 12 (.int (i32 255)) rfl (fun _ => rfl) ?_
  refine P_op 13 (and32 (chr 5 v1) 255) _ rfl (fun _ => rfl) (i32_of _).symm ?_
  refine P_op 14 (i2c32 (and32 (chr 5 v1) 255)) _ rfl (fun _ => rfl) (i32_of _).symm ?_
  exact P_rp1 rfl t32_r
def kf_String_charAt_b20005 (v1 : Int) (m : mR) : Option Int :=
  bnd (kf_StringLatin1_charAt_b10005 v1 m) fun y2 =>
  some y2
theorem D_String_charAt_b20005 (w : wX) (m : mR) (c : Nat → Option am_C) (N D : Nat) (hm : KCn m) (v1 : Int) (q1 : R32 v1) : PC w D 5 [.ref 1000011, .int (i32 v1)] (khp m c, N) (QS (FP1 (khp m c, N)) (kf_String_charAt_b20005 v1 m)) := by
  refine Pc_of (fun D bb => ?_) D
  unfold kf_String_charAt_b20005
  show PP bb w D pm_5 (0, [(0, .ref 1000011), (1, .int (i32 v1))], [], (khp (mO m [] []) c, N), 0, 0) _
  refine P_ld 1 (.ref 1000011) rfl (fun _ => rfl) ?_
  refine P_cq1 4 6 [.ref 1000011] [] 1 rfl (fun _ => rfl) rfl (D_String_isLatin1_b20005 w m c N D hm) rfl ?_
  refine P_ifN 16 7 rfl rfl rfl (l32 1 rfl) (by unfold cz; decide) ?_
  refine P_ld 8 (.ref 1000011) rfl (fun _ => rfl) ?_
  refine P_ld1 11 (.ref 1000012) rfl (fun _ => rfl) ?_
  refine P_ld 12 (.int (i32 v1)) rfl (fun _ => rfl) ?_
  refine P_cp1 15 7 [.ref 1000012, .int (i32 v1)] [] rfl (fun _ => rfl) rfl (D_StringLatin1_charAt_b10005 w m c N D hm v1 q1) (fun y2 h3 => ?_)
  exact P_rp1 rfl h3
def cs_tx_makeGiven_b20005_13 (s : Int × mR) : Prop := R32 s.1 ∧ KCn s.2
def cx_tx_makeGiven_b20005_13 : (mR) → Prop := (fun (e : mR) => KCn e)
def hd_tx_makeGiven_b20005_13 (c : Nat → Option am_C) (N : Nat) (v2 : Int) (v3 : Int) (s : Int × mR) (j : Nat → Int) : ag_St af_T := (13, [(0, .ref 6), (1, .ref 1000011), (2, .int (i32 v2)), (3, .int (i32 v3)), (4, .int (i32 s.1))], [], (khp s.2 c, N), 0, 0)
def ex_tx_makeGiven_b20005_13 (c : Nat → Option am_C) (N : Nat) (v2 : Int) (v3 : Int) : (mR) → (Nat → Int) → ag_St af_T := (fun (e : mR) (j : Nat → Int) => ((60, [(0, .ref 6), (1, .ref 1000011), (2, .int (i32 v2)), (3, .int (i32 v3)), (4, .int (i32 (j 4)))], [], (khp e c, N), 0, 0) : ag_St af_T))
def kfl_tx_makeGiven_b20005_60 (v2 : Int) (v3 : Int) (m : mR) : Option (Int × mR) :=
  bnd (kf_tx_makeName v2 v3 m) fun y2 =>
  some (0, y2.2)
theorem dg_tx_makeGiven_b20005_60 (w : wX) (c : Nat → Option am_C) (N D : Nat) (bb : Nat) (v2 : Int) (v3 : Int) (q2 : R32 v2) (q3 : R32 v3) (m : mR) (hm : KCn m) (j : Nat → Int) : PP bb w D pm_48 (60, [(0, .ref 6), (1, .ref 1000011), (2, .int (i32 v2)), (3, .int (i32 v3)), (4, .int (i32 (j 4)))], [], (khp m c, N), 0, 0) (QS (FK0 c N) (kfl_tx_makeGiven_b20005_60 v2 v3 m)) := by
  unfold kfl_tx_makeGiven_b20005_60
  show PP bb w D pm_48 (60, [(0, .ref 6), (1, .ref 1000011), (2, .int (i32 v2)), (3, .int (i32 v3)), (4, .int (i32 (j 4)))], [], (khp (mO m [] []) c, N), 0, 0) _
  refine P_ld 61 (.ref 6) rfl (fun _ => rfl) ?_
  refine P_ld 62 (.int (i32 v2)) rfl (fun _ => rfl) ?_
  refine P_ld 63 (.int (i32 v3)) rfl (fun _ => rfl) ?_
  refine P_ck0 66 49 [.ref 6, .int (i32 v2), .int (i32 v3)] [] rfl (fun _ => rfl) rfl (D_tx_makeName w m c N D hm v2 v3 q2 q3) (fun y2 n4 => ?_)
  exact P_rk0 rfl rfl n4
def kfb_tx_makeGiven_b20005_13 (v2 : Int) (v3 : Int) (s : Int × mR) : Option (Sum (Int × mR) (mR)) :=
  bnd (kf_String_length_b20005 s.2) fun y6 =>
  if y6 ≤ s.1 then
    some (.inr s.2)
  else
    if (8 : Int) ≤ s.1 then
      some (.inr s.2)
    else
      bnd (kf_String_charAt_b20005 s.1 s.2) fun y11 =>
      some (.inl (cut (s.1 + 1), (mO s.2 [(209, or64 (s.2.1 209) (shl64 y11 (cut (56 - (cut (8 * s.1))))))] [])))
theorem dh_tx_makeGiven_b20005_13 (w : wX) (c : Nat → Option am_C) (N D : Nat) (v2 : Int) (v3 : Int) (q2 : R32 v2) (q3 : R32 v3) (bb : Nat) (Q2 : Sum (Int × mR) (mR) → ag_Re af_T → Prop) (H1 : ∀ s j, cs_tx_makeGiven_b20005_13 s → PP bb w D pm_48 (hd_tx_makeGiven_b20005_13 c N v2 v3 s j) (Q2 (.inl s))) (H2 : ∀ x j, cx_tx_makeGiven_b20005_13 x → PP bb w D pm_48 (ex_tx_makeGiven_b20005_13 c N v2 v3 x j) (Q2 (.inr x))) (s : Int × mR) (j : Nat → Int) (hs : cs_tx_makeGiven_b20005_13 s) : PP (bb + 1) w D pm_48 (hd_tx_makeGiven_b20005_13 c N v2 v3 s j) (QS Q2 (kfb_tx_makeGiven_b20005_13 v2 v3 s)) := by
  obtain ⟨g4, gm⟩ := hs
  unfold kfb_tx_makeGiven_b20005_13
  show PP (bb + 1) w D pm_48 (13, [(0, .ref 6), (1, .ref 1000011), (2, .int (i32 v2)), (3, .int (i32 v3)), (4, .int (i32 s.1))], [], (khp (mO s.2 [] []) c, N), 0, 0) _
  refine P1_ld 15 (.int (i32 s.1)) rfl (fun _ => rfl) ?_
  refine P_ld 16 (.ref 1000011) rfl (fun _ => rfl) ?_
  refine P_cp1 19 3 [.ref 1000011] [.int (i32 s.1)] rfl (fun _ => rfl) rfl (D_String_length_b20005 w s.2 c N D gm) (fun y6 h7 => ?_)
  refine P_icF 60 22 rfl rfl rfl g4 h7 rfl (fun h9 => ?_) (fun h9 => ?_)
  · skip
    refine P_some ?_
    exact H2 s.2 (jk [(4, s.1)]) gm
  · skip
    refine P_ld 24 (.int (i32 s.1)) rfl (fun _ => rfl) ?_
    refine P_ld 26 (.int (i32 8)) rfl (fun _ => rfl) ?_
    refine P_icF 60 29 rfl rfl rfl g4 (l32 8 rfl) rfl (fun h10 => ?_) (fun h10 => ?_)
    · skip
      refine P_some ?_
      exact H2 s.2 (jk [(4, s.1)]) gm
    · skip
      refine P_ld 30 (.ref 6) rfl (fun _ => rfl) ?_
      refine P_ld 31 (.ref 6) rfl (fun _ => rfl) ?_
      refine PK_gf 34 (.long (i64 (s.2.1 209))) rfl rfl kd_6 rfl rfl rfl ?_
      refine P_ld 35 (.ref 1000011) rfl (fun _ => rfl) ?_
      refine P_ld 37 (.int (i32 s.1)) rfl (fun _ => rfl) ?_
      refine P_cp1 40 5 [.ref 1000011, .int (i32 s.1)] [.long (i64 (s.2.1 209)), .ref 6] rfl (fun _ => rfl) rfl (D_String_charAt_b20005 w s.2 c N D gm s.1 g4) (fun y11 h12 => ?_)
      refine P_opl 41 y11 _ rfl (fun _ => rfl) (o_i2l h12) ?_
      refine P_ld 43 (.int (i32 56)) rfl (fun _ => rfl) ?_
      refine P_ld 45 (.int (i32 8)) rfl (fun _ => rfl) ?_
      refine P_ld 47 (.int (i32 s.1)) rfl (fun _ => rfl) ?_
      refine P_op 48 (cut (8 * s.1)) _ rfl (fun _ => rfl) o_mul ?_
      refine P_op 49 (cut (56 - (cut (8 * s.1)))) _ rfl (fun _ => rfl) o_sub ?_
      refine P_opl 50 (shl64 y11 (cut (56 - (cut (8 * s.1))))) _ rfl (fun _ => rfl) (Int64.ofInt_toInt _).symm ?_
      refine P_opl 51 (or64 (s.2.1 209) (shl64 y11 (cut (56 - (cut (8 * s.1)))))) _ rfl (fun _ => rfl) (Int64.ofInt_toInt _).symm ?_
      refine PK_pf (l' := [(209, or64 (s.2.1 209) (shl64 y11 (cut (56 - (cut (8 * s.1))))))]) 54 (or64 (s.2.1 209) (shl64 y11 (cut (56 - (cut (8 * s.1)))))) rfl rfl kd_6 rfl rfl rfl rfl rfl rfl rfl ?_
      refine P_inc 57 [(4, .int (i32 (cut (s.1 + 1)))), (0, .ref 6), (1, .ref 1000011), (2, .int (i32 v2)), (3, .int (i32 v3))] rfl rfl (by decide) rfl rfl ?_
      refine P_goto 13 rfl (fun _ => rfl) ?_
      refine P_some ?_
      refine P_lv (b := [(0, .ref 6), (1, .ref 1000011), (2, .int (i32 v2)), (3, .int (i32 v3)), (4, .int (i32 (cut (s.1 + 1))))]) rfl rfl ⟨rfl, rfl, rfl, rfl, rfl, trivial⟩ ?_
      exact H1 (cut (s.1 + 1), (mO s.2 [(209, or64 (s.2.1 209) (shl64 y11 (cut (56 - (cut (8 * s.1))))))] [])) (jk []) ⟨cut_r, (KCn_mO gm rfl rfl ⟨(kV_l rfl t64_r), trivial⟩ trivial)⟩
def kf_tx_makeGiven_b20005 (v2 : Int) (v3 : Int) (m : mR) : Option (Int × mR) :=
  bnd (whl (kfb_tx_makeGiven_b20005_13 v2 v3) (0, (mO m [(209, 0), (210, 0)] []))) (fun e14 : mR =>
    kfl_tx_makeGiven_b20005_60 v2 v3 e14)
theorem D_tx_makeGiven_b20005 (w : wX) (m : mR) (c : Nat → Option am_C) (N D : Nat) (hm : KCn m) (v2 : Int) (v3 : Int) (q2 : R32 v2) (q3 : R32 v3) : PC w D 48 [.ref 6, .ref 1000011, .int (i32 v2), .int (i32 v3)] (khp m c, N) (QS (FK0 c N) (kf_tx_makeGiven_b20005 v2 v3 m)) := by
  refine Pc_of (fun D bb => ?_) D
  unfold kf_tx_makeGiven_b20005
  show PP bb w D pm_48 (0, [(0, .ref 6), (1, .ref 1000011), (2, .int (i32 v2)), (3, .int (i32 v3))], [], (khp (mO m [] []) c, N), 0, 0) _
  refine P_ld 1 (.ref 6) rfl (fun _ => rfl) ?_
  refine P_ld 2 (.long (i64 0)) rfl (fun _ => rfl) ?_
  refine PK_pf (l' := [(209, 0)]) 5 0 rfl rfl kd_6 rfl rfl rfl rfl rfl rfl rfl ?_
  refine P_ld 6 (.ref 6) rfl (fun _ => rfl) ?_
  refine P_ld 7 (.long (i64 0)) rfl (fun _ => rfl) ?_
  refine PK_pf (l' := [(209, 0), (210, 0)]) 10 0 rfl rfl kd_6 rfl rfl rfl rfl rfl rfl rfl ?_
  refine P_ld 11 (.int (i32 0)) rfl (fun _ => rfl) ?_
  refine P_sto 13 [(4, .int (i32 0)), (0, .ref 6), (1, .ref 1000011), (2, .int (i32 v2)), (3, .int (i32 v3))] rfl (fun _ => rfl) ?_
  refine P_lv (b := [(0, .ref 6), (1, .ref 1000011), (2, .int (i32 v2)), (3, .int (i32 v3)), (4, .int (i32 0))]) rfl rfl ⟨rfl, rfl, rfl, rfl, rfl, trivial⟩ ?_
  refine P_bnd ?_
  refine P_whl (fun bb Q2 H1 H2 s9 j9 hs9 => dh_tx_makeGiven_b20005_13 w c N D v2 v3 q2 q3 bb Q2 H1 H2 s9 j9 hs9) bb (fun e14 j q15 => ?_) (0, (mO m [(209, 0), (210, 0)] [])) (jk []) ⟨(l32 0 rfl), (KCn_mO hm rfl rfl ⟨(kV_l rfl (l64 0 rfl)), (kV_l rfl (l64 0 rfl)), trivial⟩ trivial)⟩
  have q16 := q15
  show PP bb w D pm_48 (60, [(0, .ref 6), (1, .ref 1000011), (2, .int (i32 v2)), (3, .int (i32 v3)), (4, .int (i32 (j 4)))], [], (khp (mO e14 [] []) c, N), 0, 0) (QS _ (kfl_tx_makeGiven_b20005_60 v2 v3 e14))
  exact dg_tx_makeGiven_b20005_60 w c N D bb v2 v3 q2 q3 e14 q16 (jk [(4, j 4)])
def kfl_String_isLatin1_b20007_18 (u0 : Int) (m : mR) : Option Int :=
  some u0
theorem dg_String_isLatin1_b20007_18 (w : wX) (c : Nat → Option am_C) (N D : Nat) (bb : Nat) (u0 : Int) (r0 : R32 u0) (m : mR) (hm : KCn m) (j : Nat → Int) : PP bb w D pm_6 (18, [(0, .ref 1000015)], [.int (i32 u0)], (khp m c, N), 0, 0) (QS (FP1 (khp m c, N)) (kfl_String_isLatin1_b20007_18 u0 m)) := by
  unfold kfl_String_isLatin1_b20007_18
  show PP bb w D pm_6 (18, [(0, .ref 1000015)], [.int (i32 u0)], (khp (mO m [] []) c, N), 0, 0) _
  exact P_rp1 rfl r0
def kf_String_isLatin1_b20007 (m : mR) : Option Int :=
  kfl_String_isLatin1_b20007_18 1 m
theorem D_String_isLatin1_b20007 (w : wX) (m : mR) (c : Nat → Option am_C) (N D : Nat) (hm : KCn m) : PC w D 6 [.ref 1000015] (khp m c, N) (QS (FP1 (khp m c, N)) (kf_String_isLatin1_b20007 m)) := by
  refine Pc_of (fun D bb => ?_) D
  unfold kf_String_isLatin1_b20007
  show PP bb w D pm_6 (0, [(0, .ref 1000015)], [], (khp (mO m [] []) c, N), 0, 0) _
  refine P_ld 3 (.int (i32 1)) rfl (fun _ => rfl) ?_
  refine P_ifN 17 6 rfl rfl rfl (l32 1 rfl) (by unfold cz; decide) ?_
  refine P_ld 7 (.ref 1000015) rfl (fun _ => rfl) ?_
  refine P_ld1 10 (.int (i32 0)) rfl (fun _ => rfl) ?_
  refine P_ifN 17 13 rfl rfl rfl (l32 0 rfl) (by unfold cz; decide) ?_
  refine P_ld 14 (.int (i32 1)) rfl (fun _ => rfl) ?_
  refine P_goto 18 rfl (fun _ => rfl) ?_
  exact dg_String_isLatin1_b20007_18 w c N D bb 1 (l32 1 rfl) m hm (jk [])
def kfl_String_coder_b20007_14 (u0 : Int) (m : mR) : Option Int :=
  some u0
theorem dg_String_coder_b20007_14 (w : wX) (c : Nat → Option am_C) (N D : Nat) (bb : Nat) (u0 : Int) (r0 : R32 u0) (m : mR) (hm : KCn m) (j : Nat → Int) : PP bb w D pm_4 (14, [(0, .ref 1000015)], [.int (i32 u0)], (khp m c, N), 0, 0) (QS (FP1 (khp m c, N)) (kfl_String_coder_b20007_14 u0 m)) := by
  unfold kfl_String_coder_b20007_14
  show PP bb w D pm_4 (14, [(0, .ref 1000015)], [.int (i32 u0)], (khp (mO m [] []) c, N), 0, 0) _
  exact P_rp1 rfl r0
def kf_String_coder_b20007 (m : mR) : Option Int :=
  kfl_String_coder_b20007_14 0 m
theorem D_String_coder_b20007 (w : wX) (m : mR) (c : Nat → Option am_C) (N D : Nat) (hm : KCn m) : PC w D 4 [.ref 1000015] (khp m c, N) (QS (FP1 (khp m c, N)) (kf_String_coder_b20007 m)) := by
  refine Pc_of (fun D bb => ?_) D
  unfold kf_String_coder_b20007
  show PP bb w D pm_4 (0, [(0, .ref 1000015)], [], (khp (mO m [] []) c, N), 0, 0) _
  refine P_ld 3 (.int (i32 1)) rfl (fun _ => rfl) ?_
  refine P_ifN 13 6 rfl rfl rfl (l32 1 rfl) (by unfold cz; decide) ?_
  refine P_ld 7 (.ref 1000015) rfl (fun _ => rfl) ?_
  refine P_ld1 10 (.int (i32 0)) rfl (fun _ => rfl) ?_
  refine P_goto 14 rfl (fun _ => rfl) ?_
  exact dg_String_coder_b20007_14 w c N D bb 0 (l32 0 rfl) m hm (jk [])
def kf_String_length_b20007 (m : mR) : Option Int :=
  some (shr32 21 0)
theorem D_String_length_b20007 (w : wX) (m : mR) (c : Nat → Option am_C) (N D : Nat) (hm : KCn m) : PC w D 3 [.ref 1000015] (khp m c, N) (QS (FP1 (khp m c, N)) (kf_String_length_b20007 m)) := by
  refine Pc_of (fun D bb => ?_) D
  unfold kf_String_length_b20007
  show PP bb w D pm_3 (0, [(0, .ref 1000015)], [], (khp (mO m [] []) c, N), 0, 0) _
  refine P_ld 1 (.ref 1000015) rfl (fun _ => rfl) ?_
  refine P_ld1 4 (.ref 1000016) rfl (fun _ => rfl) ?_
  refine P_ld1 5 (.int (i32 21)) rfl (fun _ => rfl) ?_
  refine P_ld 6 (.ref 1000015) rfl (fun _ => rfl) ?_
  refine P_cq1 9 4 [.ref 1000015] [.int (i32 21)] 0 rfl (fun _ => rfl) rfl (D_String_coder_b20007 w m c N D hm) rfl ?_
  refine P_op 10 (shr32 21 0) _ rfl (fun _ => rfl) (i32_of _).symm ?_
  exact P_rp1 rfl t32_r
def kfl_StringLatin1_canEncode_16 (u0 : Int) (m : mR) : Option Int :=
  some u0
theorem dg_StringLatin1_canEncode_16 (w : wX) (c : Nat → Option am_C) (N D : Nat) (bb : Nat) (u0 : Int) (r0 : R32 u0) (m : mR) (hm : KCn m) (j : Nat → Int) : PP bb w D pm_60 (16, [(0, .int (i32 (j 0)))], [.int (i32 u0)], (khp m c, N), 0, 0) (QS (FP1 (khp m c, N)) (kfl_StringLatin1_canEncode_16 u0 m)) := by
  unfold kfl_StringLatin1_canEncode_16
  show PP bb w D pm_60 (16, [(0, .int (i32 (j 0)))], [.int (i32 u0)], (khp (mO m [] []) c, N), 0, 0) _
  exact P_rp1 rfl r0
def kf_StringLatin1_canEncode (v0 : Int) (m : mR) : Option Int :=
  if v0 < 0 then
    kfl_StringLatin1_canEncode_16 0 m
  else
    if (255 : Int) < v0 then
      kfl_StringLatin1_canEncode_16 0 m
    else
      kfl_StringLatin1_canEncode_16 1 m
theorem D_StringLatin1_canEncode (w : wX) (m : mR) (c : Nat → Option am_C) (N D : Nat) (hm : KCn m) (v0 : Int) (q0 : R32 v0) : PC w D 60 [.int (i32 v0)] (khp m c, N) (QS (FP1 (khp m c, N)) (kf_StringLatin1_canEncode v0 m)) := by
  refine Pc_of (fun D bb => ?_) D
  unfold kf_StringLatin1_canEncode
  show PP bb w D pm_60 (0, [(0, .int (i32 v0))], [], (khp (mO m [] []) c, N), 0, 0) _
  refine P_ld 1 (.int (i32 v0)) rfl (fun _ => rfl) ?_
  refine P_ifF 15 4 rfl rfl rfl q0 rfl (fun h1 => ?_) (fun h1 => ?_)
  · skip
    refine P_ld 16 (.int (i32 0)) rfl (fun _ => rfl) ?_
    exact dg_StringLatin1_canEncode_16 w c N D bb 0 (l32 0 rfl) m hm (jk [(0, v0)])
  · skip
    refine P_ld 5 (.int (i32 v0)) rfl (fun _ => rfl) ?_
    refine P_ld 8 (.int (i32 255)) rfl (fun _ => rfl) ?_
    refine P_icF 15 11 rfl rfl rfl q0 (l32 255 rfl) rfl (fun h2 => ?_) (fun h2 => ?_)
    · skip
      refine P_ld 16 (.int (i32 0)) rfl (fun _ => rfl) ?_
      exact dg_StringLatin1_canEncode_16 w c N D bb 0 (l32 0 rfl) m hm (jk [(0, v0)])
    · skip
      refine P_ld 12 (.int (i32 1)) rfl (fun _ => rfl) ?_
      refine P_goto 16 rfl (fun _ => rfl) ?_
      exact dg_StringLatin1_canEncode_16 w c N D bb 1 (l32 1 rfl) m hm (jk [(0, v0)])
def kfl_Math_max_10 (u0 : Int) (m : mR) : Option Int :=
  some u0
theorem dg_Math_max_10 (w : wX) (c : Nat → Option am_C) (N D : Nat) (bb : Nat) (u0 : Int) (r0 : R32 u0) (m : mR) (hm : KCn m) (j : Nat → Int) : PP bb w D pm_61 (10, [(0, .int (i32 (j 0))), (1, .int (i32 (j 1)))], [.int (i32 u0)], (khp m c, N), 0, 0) (QS (FP1 (khp m c, N)) (kfl_Math_max_10 u0 m)) := by
  unfold kfl_Math_max_10
  show PP bb w D pm_61 (10, [(0, .int (i32 (j 0))), (1, .int (i32 (j 1)))], [.int (i32 u0)], (khp (mO m [] []) c, N), 0, 0) _
  exact P_rp1 rfl r0
def kf_Math_max (v0 : Int) (v1 : Int) (m : mR) : Option Int :=
  if v0 < v1 then
    kfl_Math_max_10 v1 m
  else
    kfl_Math_max_10 v0 m
theorem D_Math_max (w : wX) (m : mR) (c : Nat → Option am_C) (N D : Nat) (hm : KCn m) (v0 : Int) (v1 : Int) (q0 : R32 v0) (q1 : R32 v1) : PC w D 61 [.int (i32 v0), .int (i32 v1)] (khp m c, N) (QS (FP1 (khp m c, N)) (kf_Math_max v0 v1 m)) := by
  refine Pc_of (fun D bb => ?_) D
  unfold kf_Math_max
  show PP bb w D pm_61 (0, [(0, .int (i32 v0)), (1, .int (i32 v1))], [], (khp (mO m [] []) c, N), 0, 0) _
  refine P_ld 1 (.int (i32 v0)) rfl (fun _ => rfl) ?_
  refine P_ld 2 (.int (i32 v1)) rfl (fun _ => rfl) ?_
  refine P_icF 9 5 rfl rfl rfl q0 q1 rfl (fun h1 => ?_) (fun h1 => ?_)
  · skip
    refine P_ld 10 (.int (i32 v1)) rfl (fun _ => rfl) ?_
    exact dg_Math_max_10 w c N D bb v1 q1 m hm (jk [(0, v0), (1, v1)])
  · skip
    refine P_ld 6 (.int (i32 v0)) rfl (fun _ => rfl) ?_
    refine P_goto 10 rfl (fun _ => rfl) ?_
    exact dg_Math_max_10 w c N D bb v0 q0 m hm (jk [(0, v0), (1, v1)])
def kfl_Math_min_10 (u0 : Int) (m : mR) : Option Int :=
  some u0
theorem dg_Math_min_10 (w : wX) (c : Nat → Option am_C) (N D : Nat) (bb : Nat) (u0 : Int) (r0 : R32 u0) (m : mR) (hm : KCn m) (j : Nat → Int) : PP bb w D pm_62 (10, [(0, .int (i32 (j 0))), (1, .int (i32 (j 1)))], [.int (i32 u0)], (khp m c, N), 0, 0) (QS (FP1 (khp m c, N)) (kfl_Math_min_10 u0 m)) := by
  unfold kfl_Math_min_10
  show PP bb w D pm_62 (10, [(0, .int (i32 (j 0))), (1, .int (i32 (j 1)))], [.int (i32 u0)], (khp (mO m [] []) c, N), 0, 0) _
  exact P_rp1 rfl r0
def kf_Math_min (v0 : Int) (v1 : Int) (m : mR) : Option Int :=
  if v1 < v0 then
    kfl_Math_min_10 v1 m
  else
    kfl_Math_min_10 v0 m
theorem D_Math_min (w : wX) (m : mR) (c : Nat → Option am_C) (N D : Nat) (hm : KCn m) (v0 : Int) (v1 : Int) (q0 : R32 v0) (q1 : R32 v1) : PC w D 62 [.int (i32 v0), .int (i32 v1)] (khp m c, N) (QS (FP1 (khp m c, N)) (kf_Math_min v0 v1 m)) := by
  refine Pc_of (fun D bb => ?_) D
  unfold kf_Math_min
  show PP bb w D pm_62 (0, [(0, .int (i32 v0)), (1, .int (i32 v1))], [], (khp (mO m [] []) c, N), 0, 0) _
  refine P_ld 1 (.int (i32 v0)) rfl (fun _ => rfl) ?_
  refine P_ld 2 (.int (i32 v1)) rfl (fun _ => rfl) ?_
  refine P_icF 9 5 rfl rfl rfl q0 q1 rfl (fun h1 => ?_) (fun h1 => ?_)
  · skip
    refine P_ld 10 (.int (i32 v1)) rfl (fun _ => rfl) ?_
    exact dg_Math_min_10 w c N D bb v1 q1 m hm (jk [(0, v0), (1, v1)])
  · skip
    refine P_ld 6 (.int (i32 v0)) rfl (fun _ => rfl) ?_
    refine P_goto 10 rfl (fun _ => rfl) ?_
    exact dg_Math_min_10 w c N D bb v0 q0 m hm (jk [(0, v0), (1, v1)])
def cs_StringLatin1_indexOfChar_b10007_7 (s : Int) : Prop := R32 s
def cx_StringLatin1_indexOfChar_b10007_7 : (Sum (Int) (Unit)) → Prop := (sel (fun (e : Int) => R32 e) (fun (e : Unit) => True))
def hd_StringLatin1_indexOfChar_b10007_7 (c : Nat → Option am_C) (N : Nat) (v3 : Int) (v4 : Int) (m : mR) (s : Int) (j : Nat → Int) : ag_St af_T := (7, [(0, .ref 1000016), (1, .int (i32 (j 1))), (2, .int (i32 (j 2))), (3, .int (i32 v3)), (4, .int (i32 v4)), (5, .int (i32 s))], [], (khp m c, N), 0, 0)
def ex_StringLatin1_indexOfChar_b10007_7 (c : Nat → Option am_C) (N : Nat) (v3 : Int) (v4 : Int) (m : mR) : (Sum (Int) (Unit)) → (Nat → Int) → ag_St af_T := (sel (fun (e : Int) (j : Nat → Int) => ((22, [(0, .ref 1000016), (1, .int (i32 (j 1))), (2, .int (i32 (j 2))), (3, .int (i32 (j 3))), (4, .int (i32 (j 4))), (5, .int (i32 e))], [], (khp m c, N), 0, 0) : ag_St af_T)) (fun (e : Unit) (j : Nat → Int) => ((31, [(0, .ref 1000016), (1, .int (i32 (j 1))), (2, .int (i32 (j 2))), (3, .int (i32 (j 3))), (4, .int (i32 (j 4))), (5, .int (i32 (j 5)))], [], (khp m c, N), 0, 0) : ag_St af_T)))
def kfb_StringLatin1_indexOfChar_b10007_7 (v3 : Int) (v4 : Int) (m : mR) (s : Int) : Option (Sum (Int) (Sum (Int) (Unit))) :=
  if v3 ≤ s then
    some (.inr (.inr ()))
  else
    if chr 7 s = v4 then
      some (.inr (.inl s))
    else
      some (.inl (cut (s + 1)))
theorem dh_StringLatin1_indexOfChar_b10007_7 (w : wX) (c : Nat → Option am_C) (N D : Nat) (v3 : Int) (v4 : Int) (q3 : R32 v3) (q4 : R32 v4) (m : mR) (hm : KCn m) (bb : Nat) (Q2 : Sum (Int) (Sum (Int) (Unit)) → ag_Re af_T → Prop) (H1 : ∀ s j, cs_StringLatin1_indexOfChar_b10007_7 s → PP bb w D pm_63 (hd_StringLatin1_indexOfChar_b10007_7 c N v3 v4 m s j) (Q2 (.inl s))) (H2 : ∀ x j, cx_StringLatin1_indexOfChar_b10007_7 x → PP bb w D pm_63 (ex_StringLatin1_indexOfChar_b10007_7 c N v3 v4 m x j) (Q2 (.inr x))) (s : Int) (j : Nat → Int) (hs : cs_StringLatin1_indexOfChar_b10007_7 s) : PP (bb + 1) w D pm_63 (hd_StringLatin1_indexOfChar_b10007_7 c N v3 v4 m s j) (QS Q2 (kfb_StringLatin1_indexOfChar_b10007_7 v3 v4 m s)) := by
  have g5 := hs
  unfold kfb_StringLatin1_indexOfChar_b10007_7
  show PP (bb + 1) w D pm_63 (7, [(0, .ref 1000016), (1, .int (i32 (j 1))), (2, .int (i32 (j 2))), (3, .int (i32 v3)), (4, .int (i32 v4)), (5, .int (i32 s))], [], (khp (mO m [] []) c, N), 0, 0) _
  refine P1_ld 9 (.int (i32 s)) rfl (fun _ => rfl) ?_
  refine P_ld 10 (.int (i32 v3)) rfl (fun _ => rfl) ?_
  refine P_icF 31 13 rfl rfl rfl g5 q3 rfl (fun h3 => ?_) (fun h3 => ?_)
  · skip
    refine P_some ?_
    exact H2 (.inr ()) (jk [(1, j 1), (2, j 2), (3, v3), (4, v4), (5, s)]) trivial
  · skip
    refine P_ld 14 (.ref 1000016) rfl (fun _ => rfl) ?_
    refine P_ld 16 (.int (i32 s)) rfl (fun _ => rfl) ?_
    refine P_xbald 17 7 21 rfl rfl rfl g5 ?_
    refine P_ld 19 (.int (i32 v4)) rfl (fun _ => rfl) ?_
    refine P_icE 25 22 rfl rfl rfl chr_r q4 rfl (fun h4 => ?_) (fun h4 => ?_)
    · skip
      refine P_some ?_
      exact H2 (.inl s) (jk [(1, j 1), (2, j 2), (3, v3), (4, v4)]) g5
    · skip
      refine P_inc 28 [(5, .int (i32 (cut (s + 1)))), (0, .ref 1000016), (1, .int (i32 (j 1))), (2, .int (i32 (j 2))), (3, .int (i32 v3)), (4, .int (i32 v4))] rfl rfl (by decide) rfl rfl ?_
      refine P_goto 7 rfl (fun _ => rfl) ?_
      refine P_some ?_
      refine P_lv (b := [(0, .ref 1000016), (1, .int (i32 (j 1))), (2, .int (i32 (j 2))), (3, .int (i32 v3)), (4, .int (i32 v4)), (5, .int (i32 (cut (s + 1))))]) rfl rfl ⟨rfl, rfl, rfl, rfl, rfl, rfl, trivial⟩ ?_
      exact H1 (cut (s + 1)) (jk [(1, j 1), (2, j 2)]) cut_r
def kf_StringLatin1_indexOfChar_b10007 (v1 : Int) (v2 : Int) (v3 : Int) (m : mR) : Option Int :=
  bnd (whl (kfb_StringLatin1_indexOfChar_b10007_7 v3 (i2b32 v1) m) v2) (sel
    (fun e5 : Int =>
      some e5)
    (fun e8 : Unit =>
      some (-1)))
theorem D_StringLatin1_indexOfChar_b10007 (w : wX) (m : mR) (c : Nat → Option am_C) (N D : Nat) (hm : KCn m) (v1 : Int) (v2 : Int) (v3 : Int) (q1 : R32 v1) (q2 : R32 v2) (q3 : R32 v3) : PC w D 63 [.ref 1000016, .int (i32 v1), .int (i32 v2), .int (i32 v3)] (khp m c, N) (QS (FP1 (khp m c, N)) (kf_StringLatin1_indexOfChar_b10007 v1 v2 v3 m)) := by
  refine Pc_of (fun D bb => ?_) D
  unfold kf_StringLatin1_indexOfChar_b10007
  show PP bb w D pm_63 (0, [(0, .ref 1000016), (1, .int (i32 v1)), (2, .int (i32 v2)), (3, .int (i32 v3))], [], (khp (mO m [] []) c, N), 0, 0) _
  refine P_ld 1 (.int (i32 v1)) rfl (fun _ => rfl) ?_
  refine P_op 2 (i2b32 v1) _ rfl (fun _ => rfl) (i32_of _).symm ?_
  refine P_sto 4 [(4, .int (i32 (i2b32 v1))), (0, .ref 1000016), (1, .int (i32 v1)), (2, .int (i32 v2)), (3, .int (i32 v3))] rfl (fun _ => rfl) ?_
  refine P_ld 5 (.int (i32 v2)) rfl (fun _ => rfl) ?_
  refine P_sto 7 [(5, .int (i32 v2)), (4, .int (i32 (i2b32 v1))), (0, .ref 1000016), (1, .int (i32 v1)), (2, .int (i32 v2)), (3, .int (i32 v3))] rfl (fun _ => rfl) ?_
  refine P_lv (b := [(0, .ref 1000016), (1, .int (i32 v1)), (2, .int (i32 v2)), (3, .int (i32 v3)), (4, .int (i32 (i2b32 v1))), (5, .int (i32 v2))]) rfl rfl ⟨rfl, rfl, rfl, rfl, rfl, rfl, trivial⟩ ?_
  refine P_bnd ?_
  refine P_whl (fun bb Q2 H1 H2 s9 j9 hs9 => dh_StringLatin1_indexOfChar_b10007_7 w c N D v3 (i2b32 v1) q3 t32_r m hm bb Q2 H1 H2 s9 j9 hs9) bb (fun x0 j hx0 => ?_) v2 (jk [(1, v1), (2, v2)]) q2
  cases x0 with
  | inl e5 =>
    have q6 := hx0
    have q7 := q6
    show PP bb w D pm_63 (22, [(0, .ref 1000016), (1, .int (i32 (j 1))), (2, .int (i32 (j 2))), (3, .int (i32 (j 3))), (4, .int (i32 (j 4))), (5, .int (i32 e5))], [], (khp (mO m [] []) c, N), 0, 0) (QS _ (some e5))
    refine P_ld 24 (.int (i32 e5)) rfl (fun _ => rfl) ?_
    exact P_rp1 rfl q7
  | inr e8 =>
    have q9 := hx0
    show PP bb w D pm_63 (31, [(0, .ref 1000016), (1, .int (i32 (j 1))), (2, .int (i32 (j 2))), (3, .int (i32 (j 3))), (4, .int (i32 (j 4))), (5, .int (i32 (j 5)))], [], (khp (mO m [] []) c, N), 0, 0) (QS _ (some (-1)))
    refine P_ld 32 (.int (i32 (-1))) rfl (fun _ => rfl) ?_
    exact P_rp1 rfl (l32 (-1) rfl)
def kf_StringLatin1_indexOf_b10007 (v1 : Int) (v2 : Int) (v3 : Int) (m : mR) : Option Int :=
  bnd (kf_StringLatin1_canEncode v1 m) fun y1 =>
  if y1 = 0 then
    some (-1)
  else
    bnd (kf_Math_max v2 0 m) fun y5 =>
    bnd (kf_Math_min v3 21 m) fun y8 =>
    if y5 < y8 then
      bnd (kf_StringLatin1_indexOfChar_b10007 v1 y5 y8 m) fun y12 =>
      some y12
    else
      some (-1)
theorem D_StringLatin1_indexOf_b10007 (w : wX) (m : mR) (c : Nat → Option am_C) (N D : Nat) (hm : KCn m) (v1 : Int) (v2 : Int) (v3 : Int) (q1 : R32 v1) (q2 : R32 v2) (q3 : R32 v3) : PC w D 59 [.ref 1000016, .int (i32 v1), .int (i32 v2), .int (i32 v3)] (khp m c, N) (QS (FP1 (khp m c, N)) (kf_StringLatin1_indexOf_b10007 v1 v2 v3 m)) := by
  refine Pc_of (fun D bb => ?_) D
  unfold kf_StringLatin1_indexOf_b10007
  show PP bb w D pm_59 (0, [(0, .ref 1000016), (1, .int (i32 v1)), (2, .int (i32 v2)), (3, .int (i32 v3))], [], (khp (mO m [] []) c, N), 0, 0) _
  refine P_ld 1 (.int (i32 v1)) rfl (fun _ => rfl) ?_
  refine P_cp1 4 60 [.int (i32 v1)] [] rfl (fun _ => rfl) rfl (D_StringLatin1_canEncode w m c N D hm v1 q1) (fun y1 h2 => ?_)
  refine P_ifE 9 7 rfl rfl rfl h2 rfl (fun h4 => ?_) (fun h4 => ?_)
  · skip
    refine P_ld 8 (.int (i32 (-1))) rfl (fun _ => rfl) ?_
    exact P_rp1 rfl (l32 (-1) rfl)
  · skip
    refine P_ld 10 (.int (i32 v2)) rfl (fun _ => rfl) ?_
    refine P_ld 11 (.int (i32 0)) rfl (fun _ => rfl) ?_
    refine P_cp1 14 61 [.int (i32 v2), .int (i32 0)] [] rfl (fun _ => rfl) rfl (D_Math_max w m c N D hm v2 0 q2 (l32 0 rfl)) (fun y5 h6 => ?_)
    refine P_sto 15 [(2, .int (i32 y5)), (0, .ref 1000016), (1, .int (i32 v1)), (3, .int (i32 v3))] rfl (fun _ => rfl) ?_
    refine P_ld 16 (.int (i32 v3)) rfl (fun _ => rfl) ?_
    refine P_ld 17 (.ref 1000016) rfl (fun _ => rfl) ?_
    refine P_ld1 18 (.int (i32 21)) rfl (fun _ => rfl) ?_
    refine P_cp1 21 62 [.int (i32 v3), .int (i32 21)] [] rfl (fun _ => rfl) rfl (D_Math_min w m c N D hm v3 21 q3 (l32 21 rfl)) (fun y8 h9 => ?_)
    refine P_sto 22 [(3, .int (i32 y8)), (2, .int (i32 y5)), (0, .ref 1000016), (1, .int (i32 v1))] rfl (fun _ => rfl) ?_
    refine P_ld 23 (.int (i32 y5)) rfl (fun _ => rfl) ?_
    refine P_ld 24 (.int (i32 y8)) rfl (fun _ => rfl) ?_
    refine P_icF 29 27 rfl rfl rfl h6 h9 rfl (fun h11 => ?_) (fun h11 => ?_)
    · skip
      refine P_ld 30 (.ref 1000016) rfl (fun _ => rfl) ?_
      refine P_ld 31 (.int (i32 v1)) rfl (fun _ => rfl) ?_
      refine P_ld 32 (.int (i32 y5)) rfl (fun _ => rfl) ?_
      refine P_ld 33 (.int (i32 y8)) rfl (fun _ => rfl) ?_
      refine P_cp1 36 63 [.ref 1000016, .int (i32 v1), .int (i32 y5), .int (i32 y8)] [] rfl (fun _ => rfl) rfl (D_StringLatin1_indexOfChar_b10007 w m c N D hm v1 y5 y8 q1 h6 h9) (fun y12 h13 => ?_)
      exact P_rp1 rfl h13
    · skip
      refine P_ld 28 (.int (i32 (-1))) rfl (fun _ => rfl) ?_
      exact P_rp1 rfl (l32 (-1) rfl)
def kf_String_indexOf1_b20007 (v1 : Int) (v2 : Int) (m : mR) : Option Int :=
  bnd (kf_String_length_b20007 m) fun y2 =>
  bnd (kf_StringLatin1_indexOf_b10007 v1 v2 y2 m) fun y5 =>
  some y5
theorem D_String_indexOf1_b20007 (w : wX) (m : mR) (c : Nat → Option am_C) (N D : Nat) (hm : KCn m) (v1 : Int) (v2 : Int) (q1 : R32 v1) (q2 : R32 v2) : PC w D 58 [.ref 1000015, .int (i32 v1), .int (i32 v2)] (khp m c, N) (QS (FP1 (khp m c, N)) (kf_String_indexOf1_b20007 v1 v2 m)) := by
  refine Pc_of (fun D bb => ?_) D
  unfold kf_String_indexOf1_b20007
  show PP bb w D pm_58 (0, [(0, .ref 1000015), (1, .int (i32 v1)), (2, .int (i32 v2))], [], (khp (mO m [] []) c, N), 0, 0) _
  refine P_ld 1 (.ref 1000015) rfl (fun _ => rfl) ?_
  refine P_cq1 4 6 [.ref 1000015] [] 1 rfl (fun _ => rfl) rfl (D_String_isLatin1_b20007 w m c N D hm) rfl ?_
  refine P_ifN 23 7 rfl rfl rfl (l32 1 rfl) (by unfold cz; decide) ?_
  refine P_ld 8 (.ref 1000015) rfl (fun _ => rfl) ?_
  refine P_ld1 11 (.ref 1000016) rfl (fun _ => rfl) ?_
  refine P_ld 12 (.int (i32 v1)) rfl (fun _ => rfl) ?_
  refine P_ld 13 (.int (i32 v2)) rfl (fun _ => rfl) ?_
  refine P_ld 14 (.ref 1000015) rfl (fun _ => rfl) ?_
  refine P_cp1 17 3 [.ref 1000015] [.int (i32 v2), .int (i32 v1), .ref 1000016] rfl (fun _ => rfl) rfl (D_String_length_b20007 w m c N D hm) (fun y2 h3 => ?_)
  refine P_cp1 20 59 [.ref 1000016, .int (i32 v1), .int (i32 v2), .int (i32 y2)] [] rfl (fun _ => rfl) rfl (D_StringLatin1_indexOf_b10007 w m c N D hm v1 v2 y2 q1 q2 h3) (fun y5 h6 => ?_)
  refine P_goto 36 rfl (fun _ => rfl) ?_
  exact P_rp1 rfl h6
def kf_String_indexOf0_b20007 (v1 : Int) (m : mR) : Option Int :=
  bnd (kf_String_indexOf1_b20007 v1 0 m) fun y1 =>
  some y1
theorem D_String_indexOf0_b20007 (w : wX) (m : mR) (c : Nat → Option am_C) (N D : Nat) (hm : KCn m) (v1 : Int) (q1 : R32 v1) : PC w D 57 [.ref 1000015, .int (i32 v1)] (khp m c, N) (QS (FP1 (khp m c, N)) (kf_String_indexOf0_b20007 v1 m)) := by
  refine Pc_of (fun D bb => ?_) D
  unfold kf_String_indexOf0_b20007
  show PP bb w D pm_57 (0, [(0, .ref 1000015), (1, .int (i32 v1))], [], (khp (mO m [] []) c, N), 0, 0) _
  refine P_ld 1 (.ref 1000015) rfl (fun _ => rfl) ?_
  refine P_ld 2 (.int (i32 v1)) rfl (fun _ => rfl) ?_
  refine P_ld 3 (.int (i32 0)) rfl (fun _ => rfl) ?_
  refine P_cp1 6 58 [.ref 1000015, .int (i32 v1), .int (i32 0)] [] rfl (fun _ => rfl) rfl (D_String_indexOf1_b20007 w m c N D hm v1 0 q1 (l32 0 rfl)) (fun y1 h2 => ?_)
  exact P_rp1 rfl h2
def kfl_String_isLatin1_b20009_18 (u0 : Int) (m : mR) : Option Int :=
  some u0
theorem dg_String_isLatin1_b20009_18 (w : wX) (c : Nat → Option am_C) (N D : Nat) (bb : Nat) (u0 : Int) (r0 : R32 u0) (m : mR) (hm : KCn m) (j : Nat → Int) : PP bb w D pm_6 (18, [(0, .ref 1000019)], [.int (i32 u0)], (khp m c, N), 0, 0) (QS (FP1 (khp m c, N)) (kfl_String_isLatin1_b20009_18 u0 m)) := by
  unfold kfl_String_isLatin1_b20009_18
  show PP bb w D pm_6 (18, [(0, .ref 1000019)], [.int (i32 u0)], (khp (mO m [] []) c, N), 0, 0) _
  exact P_rp1 rfl r0
def kf_String_isLatin1_b20009 (m : mR) : Option Int :=
  kfl_String_isLatin1_b20009_18 1 m
theorem D_String_isLatin1_b20009 (w : wX) (m : mR) (c : Nat → Option am_C) (N D : Nat) (hm : KCn m) : PC w D 6 [.ref 1000019] (khp m c, N) (QS (FP1 (khp m c, N)) (kf_String_isLatin1_b20009 m)) := by
  refine Pc_of (fun D bb => ?_) D
  unfold kf_String_isLatin1_b20009
  show PP bb w D pm_6 (0, [(0, .ref 1000019)], [], (khp (mO m [] []) c, N), 0, 0) _
  refine P_ld 3 (.int (i32 1)) rfl (fun _ => rfl) ?_
  refine P_ifN 17 6 rfl rfl rfl (l32 1 rfl) (by unfold cz; decide) ?_
  refine P_ld 7 (.ref 1000019) rfl (fun _ => rfl) ?_
  refine P_ld1 10 (.int (i32 0)) rfl (fun _ => rfl) ?_
  refine P_ifN 17 13 rfl rfl rfl (l32 0 rfl) (by unfold cz; decide) ?_
  refine P_ld 14 (.int (i32 1)) rfl (fun _ => rfl) ?_
  refine P_goto 18 rfl (fun _ => rfl) ?_
  exact dg_String_isLatin1_b20009_18 w c N D bb 1 (l32 1 rfl) m hm (jk [])
def kfl_String_coder_b20009_14 (u0 : Int) (m : mR) : Option Int :=
  some u0
theorem dg_String_coder_b20009_14 (w : wX) (c : Nat → Option am_C) (N D : Nat) (bb : Nat) (u0 : Int) (r0 : R32 u0) (m : mR) (hm : KCn m) (j : Nat → Int) : PP bb w D pm_4 (14, [(0, .ref 1000019)], [.int (i32 u0)], (khp m c, N), 0, 0) (QS (FP1 (khp m c, N)) (kfl_String_coder_b20009_14 u0 m)) := by
  unfold kfl_String_coder_b20009_14
  show PP bb w D pm_4 (14, [(0, .ref 1000019)], [.int (i32 u0)], (khp (mO m [] []) c, N), 0, 0) _
  exact P_rp1 rfl r0
def kf_String_coder_b20009 (m : mR) : Option Int :=
  kfl_String_coder_b20009_14 0 m
theorem D_String_coder_b20009 (w : wX) (m : mR) (c : Nat → Option am_C) (N D : Nat) (hm : KCn m) : PC w D 4 [.ref 1000019] (khp m c, N) (QS (FP1 (khp m c, N)) (kf_String_coder_b20009 m)) := by
  refine Pc_of (fun D bb => ?_) D
  unfold kf_String_coder_b20009
  show PP bb w D pm_4 (0, [(0, .ref 1000019)], [], (khp (mO m [] []) c, N), 0, 0) _
  refine P_ld 3 (.int (i32 1)) rfl (fun _ => rfl) ?_
  refine P_ifN 13 6 rfl rfl rfl (l32 1 rfl) (by unfold cz; decide) ?_
  refine P_ld 7 (.ref 1000019) rfl (fun _ => rfl) ?_
  refine P_ld1 10 (.int (i32 0)) rfl (fun _ => rfl) ?_
  refine P_goto 14 rfl (fun _ => rfl) ?_
  exact dg_String_coder_b20009_14 w c N D bb 0 (l32 0 rfl) m hm (jk [])
def kf_String_length_b20009 (m : mR) : Option Int :=
  some (shr32 3 0)
theorem D_String_length_b20009 (w : wX) (m : mR) (c : Nat → Option am_C) (N D : Nat) (hm : KCn m) : PC w D 3 [.ref 1000019] (khp m c, N) (QS (FP1 (khp m c, N)) (kf_String_length_b20009 m)) := by
  refine Pc_of (fun D bb => ?_) D
  unfold kf_String_length_b20009
  show PP bb w D pm_3 (0, [(0, .ref 1000019)], [], (khp (mO m [] []) c, N), 0, 0) _
  refine P_ld 1 (.ref 1000019) rfl (fun _ => rfl) ?_
  refine P_ld1 4 (.ref 1000020) rfl (fun _ => rfl) ?_
  refine P_ld1 5 (.int (i32 3)) rfl (fun _ => rfl) ?_
  refine P_ld 6 (.ref 1000019) rfl (fun _ => rfl) ?_
  refine P_cq1 9 4 [.ref 1000019] [.int (i32 3)] 0 rfl (fun _ => rfl) rfl (D_String_coder_b20009 w m c N D hm) rfl ?_
  refine P_op 10 (shr32 3 0) _ rfl (fun _ => rfl) (i32_of _).symm ?_
  exact P_rp1 rfl t32_r
def cs_StringLatin1_indexOfChar_b10009_7 (s : Int) : Prop := R32 s
def cx_StringLatin1_indexOfChar_b10009_7 : (Sum (Int) (Unit)) → Prop := (sel (fun (e : Int) => R32 e) (fun (e : Unit) => True))
def hd_StringLatin1_indexOfChar_b10009_7 (c : Nat → Option am_C) (N : Nat) (v3 : Int) (v4 : Int) (m : mR) (s : Int) (j : Nat → Int) : ag_St af_T := (7, [(0, .ref 1000020), (1, .int (i32 (j 1))), (2, .int (i32 (j 2))), (3, .int (i32 v3)), (4, .int (i32 v4)), (5, .int (i32 s))], [], (khp m c, N), 0, 0)
def ex_StringLatin1_indexOfChar_b10009_7 (c : Nat → Option am_C) (N : Nat) (v3 : Int) (v4 : Int) (m : mR) : (Sum (Int) (Unit)) → (Nat → Int) → ag_St af_T := (sel (fun (e : Int) (j : Nat → Int) => ((22, [(0, .ref 1000020), (1, .int (i32 (j 1))), (2, .int (i32 (j 2))), (3, .int (i32 (j 3))), (4, .int (i32 (j 4))), (5, .int (i32 e))], [], (khp m c, N), 0, 0) : ag_St af_T)) (fun (e : Unit) (j : Nat → Int) => ((31, [(0, .ref 1000020), (1, .int (i32 (j 1))), (2, .int (i32 (j 2))), (3, .int (i32 (j 3))), (4, .int (i32 (j 4))), (5, .int (i32 (j 5)))], [], (khp m c, N), 0, 0) : ag_St af_T)))
def kfb_StringLatin1_indexOfChar_b10009_7 (v3 : Int) (v4 : Int) (m : mR) (s : Int) : Option (Sum (Int) (Sum (Int) (Unit))) :=
  if v3 ≤ s then
    some (.inr (.inr ()))
  else
    if chr 9 s = v4 then
      some (.inr (.inl s))
    else
      some (.inl (cut (s + 1)))
theorem dh_StringLatin1_indexOfChar_b10009_7 (w : wX) (c : Nat → Option am_C) (N D : Nat) (v3 : Int) (v4 : Int) (q3 : R32 v3) (q4 : R32 v4) (m : mR) (hm : KCn m) (bb : Nat) (Q2 : Sum (Int) (Sum (Int) (Unit)) → ag_Re af_T → Prop) (H1 : ∀ s j, cs_StringLatin1_indexOfChar_b10009_7 s → PP bb w D pm_63 (hd_StringLatin1_indexOfChar_b10009_7 c N v3 v4 m s j) (Q2 (.inl s))) (H2 : ∀ x j, cx_StringLatin1_indexOfChar_b10009_7 x → PP bb w D pm_63 (ex_StringLatin1_indexOfChar_b10009_7 c N v3 v4 m x j) (Q2 (.inr x))) (s : Int) (j : Nat → Int) (hs : cs_StringLatin1_indexOfChar_b10009_7 s) : PP (bb + 1) w D pm_63 (hd_StringLatin1_indexOfChar_b10009_7 c N v3 v4 m s j) (QS Q2 (kfb_StringLatin1_indexOfChar_b10009_7 v3 v4 m s)) := by
  have g5 := hs
  unfold kfb_StringLatin1_indexOfChar_b10009_7
  show PP (bb + 1) w D pm_63 (7, [(0, .ref 1000020), (1, .int (i32 (j 1))), (2, .int (i32 (j 2))), (3, .int (i32 v3)), (4, .int (i32 v4)), (5, .int (i32 s))], [], (khp (mO m [] []) c, N), 0, 0) _
  refine P1_ld 9 (.int (i32 s)) rfl (fun _ => rfl) ?_
  refine P_ld 10 (.int (i32 v3)) rfl (fun _ => rfl) ?_
  refine P_icF 31 13 rfl rfl rfl g5 q3 rfl (fun h3 => ?_) (fun h3 => ?_)
  · skip
    refine P_some ?_
    exact H2 (.inr ()) (jk [(1, j 1), (2, j 2), (3, v3), (4, v4), (5, s)]) trivial
  · skip
    refine P_ld 14 (.ref 1000020) rfl (fun _ => rfl) ?_
    refine P_ld 16 (.int (i32 s)) rfl (fun _ => rfl) ?_
    refine P_xbald 17 9 3 rfl rfl rfl g5 ?_
    refine P_ld 19 (.int (i32 v4)) rfl (fun _ => rfl) ?_
    refine P_icE 25 22 rfl rfl rfl chr_r q4 rfl (fun h4 => ?_) (fun h4 => ?_)
    · skip
      refine P_some ?_
      exact H2 (.inl s) (jk [(1, j 1), (2, j 2), (3, v3), (4, v4)]) g5
    · skip
      refine P_inc 28 [(5, .int (i32 (cut (s + 1)))), (0, .ref 1000020), (1, .int (i32 (j 1))), (2, .int (i32 (j 2))), (3, .int (i32 v3)), (4, .int (i32 v4))] rfl rfl (by decide) rfl rfl ?_
      refine P_goto 7 rfl (fun _ => rfl) ?_
      refine P_some ?_
      refine P_lv (b := [(0, .ref 1000020), (1, .int (i32 (j 1))), (2, .int (i32 (j 2))), (3, .int (i32 v3)), (4, .int (i32 v4)), (5, .int (i32 (cut (s + 1))))]) rfl rfl ⟨rfl, rfl, rfl, rfl, rfl, rfl, trivial⟩ ?_
      exact H1 (cut (s + 1)) (jk [(1, j 1), (2, j 2)]) cut_r
def kf_StringLatin1_indexOfChar_b10009 (v1 : Int) (v2 : Int) (v3 : Int) (m : mR) : Option Int :=
  bnd (whl (kfb_StringLatin1_indexOfChar_b10009_7 v3 (i2b32 v1) m) v2) (sel
    (fun e5 : Int =>
      some e5)
    (fun e8 : Unit =>
      some (-1)))
theorem D_StringLatin1_indexOfChar_b10009 (w : wX) (m : mR) (c : Nat → Option am_C) (N D : Nat) (hm : KCn m) (v1 : Int) (v2 : Int) (v3 : Int) (q1 : R32 v1) (q2 : R32 v2) (q3 : R32 v3) : PC w D 63 [.ref 1000020, .int (i32 v1), .int (i32 v2), .int (i32 v3)] (khp m c, N) (QS (FP1 (khp m c, N)) (kf_StringLatin1_indexOfChar_b10009 v1 v2 v3 m)) := by
  refine Pc_of (fun D bb => ?_) D
  unfold kf_StringLatin1_indexOfChar_b10009
  show PP bb w D pm_63 (0, [(0, .ref 1000020), (1, .int (i32 v1)), (2, .int (i32 v2)), (3, .int (i32 v3))], [], (khp (mO m [] []) c, N), 0, 0) _
  refine P_ld 1 (.int (i32 v1)) rfl (fun _ => rfl) ?_
  refine P_op 2 (i2b32 v1) _ rfl (fun _ => rfl) (i32_of _).symm ?_
  refine P_sto 4 [(4, .int (i32 (i2b32 v1))), (0, .ref 1000020), (1, .int (i32 v1)), (2, .int (i32 v2)), (3, .int (i32 v3))] rfl (fun _ => rfl) ?_
  refine P_ld 5 (.int (i32 v2)) rfl (fun _ => rfl) ?_
  refine P_sto 7 [(5, .int (i32 v2)), (4, .int (i32 (i2b32 v1))), (0, .ref 1000020), (1, .int (i32 v1)), (2, .int (i32 v2)), (3, .int (i32 v3))] rfl (fun _ => rfl) ?_
  refine P_lv (b := [(0, .ref 1000020), (1, .int (i32 v1)), (2, .int (i32 v2)), (3, .int (i32 v3)), (4, .int (i32 (i2b32 v1))), (5, .int (i32 v2))]) rfl rfl ⟨rfl, rfl, rfl, rfl, rfl, rfl, trivial⟩ ?_
  refine P_bnd ?_
  refine P_whl (fun bb Q2 H1 H2 s9 j9 hs9 => dh_StringLatin1_indexOfChar_b10009_7 w c N D v3 (i2b32 v1) q3 t32_r m hm bb Q2 H1 H2 s9 j9 hs9) bb (fun x0 j hx0 => ?_) v2 (jk [(1, v1), (2, v2)]) q2
  cases x0 with
  | inl e5 =>
    have q6 := hx0
    have q7 := q6
    show PP bb w D pm_63 (22, [(0, .ref 1000020), (1, .int (i32 (j 1))), (2, .int (i32 (j 2))), (3, .int (i32 (j 3))), (4, .int (i32 (j 4))), (5, .int (i32 e5))], [], (khp (mO m [] []) c, N), 0, 0) (QS _ (some e5))
    refine P_ld 24 (.int (i32 e5)) rfl (fun _ => rfl) ?_
    exact P_rp1 rfl q7
  | inr e8 =>
    have q9 := hx0
    show PP bb w D pm_63 (31, [(0, .ref 1000020), (1, .int (i32 (j 1))), (2, .int (i32 (j 2))), (3, .int (i32 (j 3))), (4, .int (i32 (j 4))), (5, .int (i32 (j 5)))], [], (khp (mO m [] []) c, N), 0, 0) (QS _ (some (-1)))
    refine P_ld 32 (.int (i32 (-1))) rfl (fun _ => rfl) ?_
    exact P_rp1 rfl (l32 (-1) rfl)
def kf_StringLatin1_indexOf_b10009 (v1 : Int) (v2 : Int) (v3 : Int) (m : mR) : Option Int :=
  bnd (kf_StringLatin1_canEncode v1 m) fun y1 =>
  if y1 = 0 then
    some (-1)
  else
    bnd (kf_Math_max v2 0 m) fun y5 =>
    bnd (kf_Math_min v3 3 m) fun y8 =>
    if y5 < y8 then
      bnd (kf_StringLatin1_indexOfChar_b10009 v1 y5 y8 m) fun y12 =>
      some y12
    else
      some (-1)
theorem D_StringLatin1_indexOf_b10009 (w : wX) (m : mR) (c : Nat → Option am_C) (N D : Nat) (hm : KCn m) (v1 : Int) (v2 : Int) (v3 : Int) (q1 : R32 v1) (q2 : R32 v2) (q3 : R32 v3) : PC w D 59 [.ref 1000020, .int (i32 v1), .int (i32 v2), .int (i32 v3)] (khp m c, N) (QS (FP1 (khp m c, N)) (kf_StringLatin1_indexOf_b10009 v1 v2 v3 m)) := by
  refine Pc_of (fun D bb => ?_) D
  unfold kf_StringLatin1_indexOf_b10009
  show PP bb w D pm_59 (0, [(0, .ref 1000020), (1, .int (i32 v1)), (2, .int (i32 v2)), (3, .int (i32 v3))], [], (khp (mO m [] []) c, N), 0, 0) _
  refine P_ld 1 (.int (i32 v1)) rfl (fun _ => rfl) ?_
  refine P_cp1 4 60 [.int (i32 v1)] [] rfl (fun _ => rfl) rfl (D_StringLatin1_canEncode w m c N D hm v1 q1) (fun y1 h2 => ?_)
  refine P_ifE 9 7 rfl rfl rfl h2 rfl (fun h4 => ?_) (fun h4 => ?_)
  · skip
    refine P_ld 8 (.int (i32 (-1))) rfl (fun _ => rfl) ?_
    exact P_rp1 rfl (l32 (-1) rfl)
  · skip
    refine P_ld 10 (.int (i32 v2)) rfl (fun _ => rfl) ?_
    refine P_ld 11 (.int (i32 0)) rfl (fun _ => rfl) ?_
    refine P_cp1 14 61 [.int (i32 v2), .int (i32 0)] [] rfl (fun _ => rfl) rfl (D_Math_max w m c N D hm v2 0 q2 (l32 0 rfl)) (fun y5 h6 => ?_)
    refine P_sto 15 [(2, .int (i32 y5)), (0, .ref 1000020), (1, .int (i32 v1)), (3, .int (i32 v3))] rfl (fun _ => rfl) ?_
    refine P_ld 16 (.int (i32 v3)) rfl (fun _ => rfl) ?_
    refine P_ld 17 (.ref 1000020) rfl (fun _ => rfl) ?_
    refine P_ld1 18 (.int (i32 3)) rfl (fun _ => rfl) ?_
    refine P_cp1 21 62 [.int (i32 v3), .int (i32 3)] [] rfl (fun _ => rfl) rfl (D_Math_min w m c N D hm v3 3 q3 (l32 3 rfl)) (fun y8 h9 => ?_)
    refine P_sto 22 [(3, .int (i32 y8)), (2, .int (i32 y5)), (0, .ref 1000020), (1, .int (i32 v1))] rfl (fun _ => rfl) ?_
    refine P_ld 23 (.int (i32 y5)) rfl (fun _ => rfl) ?_
    refine P_ld 24 (.int (i32 y8)) rfl (fun _ => rfl) ?_
    refine P_icF 29 27 rfl rfl rfl h6 h9 rfl (fun h11 => ?_) (fun h11 => ?_)
    · skip
      refine P_ld 30 (.ref 1000020) rfl (fun _ => rfl) ?_
      refine P_ld 31 (.int (i32 v1)) rfl (fun _ => rfl) ?_
      refine P_ld 32 (.int (i32 y5)) rfl (fun _ => rfl) ?_
      refine P_ld 33 (.int (i32 y8)) rfl (fun _ => rfl) ?_
      refine P_cp1 36 63 [.ref 1000020, .int (i32 v1), .int (i32 y5), .int (i32 y8)] [] rfl (fun _ => rfl) rfl (D_StringLatin1_indexOfChar_b10009 w m c N D hm v1 y5 y8 q1 h6 h9) (fun y12 h13 => ?_)
      exact P_rp1 rfl h13
    · skip
      refine P_ld 28 (.int (i32 (-1))) rfl (fun _ => rfl) ?_
      exact P_rp1 rfl (l32 (-1) rfl)
def kf_String_indexOf1_b20009 (v1 : Int) (v2 : Int) (m : mR) : Option Int :=
  bnd (kf_String_length_b20009 m) fun y2 =>
  bnd (kf_StringLatin1_indexOf_b10009 v1 v2 y2 m) fun y5 =>
  some y5
theorem D_String_indexOf1_b20009 (w : wX) (m : mR) (c : Nat → Option am_C) (N D : Nat) (hm : KCn m) (v1 : Int) (v2 : Int) (q1 : R32 v1) (q2 : R32 v2) : PC w D 58 [.ref 1000019, .int (i32 v1), .int (i32 v2)] (khp m c, N) (QS (FP1 (khp m c, N)) (kf_String_indexOf1_b20009 v1 v2 m)) := by
  refine Pc_of (fun D bb => ?_) D
  unfold kf_String_indexOf1_b20009
  show PP bb w D pm_58 (0, [(0, .ref 1000019), (1, .int (i32 v1)), (2, .int (i32 v2))], [], (khp (mO m [] []) c, N), 0, 0) _
  refine P_ld 1 (.ref 1000019) rfl (fun _ => rfl) ?_
  refine P_cq1 4 6 [.ref 1000019] [] 1 rfl (fun _ => rfl) rfl (D_String_isLatin1_b20009 w m c N D hm) rfl ?_
  refine P_ifN 23 7 rfl rfl rfl (l32 1 rfl) (by unfold cz; decide) ?_
  refine P_ld 8 (.ref 1000019) rfl (fun _ => rfl) ?_
  refine P_ld1 11 (.ref 1000020) rfl (fun _ => rfl) ?_
  refine P_ld 12 (.int (i32 v1)) rfl (fun _ => rfl) ?_
  refine P_ld 13 (.int (i32 v2)) rfl (fun _ => rfl) ?_
  refine P_ld 14 (.ref 1000019) rfl (fun _ => rfl) ?_
  refine P_cp1 17 3 [.ref 1000019] [.int (i32 v2), .int (i32 v1), .ref 1000020] rfl (fun _ => rfl) rfl (D_String_length_b20009 w m c N D hm) (fun y2 h3 => ?_)
  refine P_cp1 20 59 [.ref 1000020, .int (i32 v1), .int (i32 v2), .int (i32 y2)] [] rfl (fun _ => rfl) rfl (D_StringLatin1_indexOf_b10009 w m c N D hm v1 v2 y2 q1 q2 h3) (fun y5 h6 => ?_)
  refine P_goto 36 rfl (fun _ => rfl) ?_
  exact P_rp1 rfl h6
def kf_String_indexOf0_b20009 (v1 : Int) (m : mR) : Option Int :=
  bnd (kf_String_indexOf1_b20009 v1 0 m) fun y1 =>
  some y1
theorem D_String_indexOf0_b20009 (w : wX) (m : mR) (c : Nat → Option am_C) (N D : Nat) (hm : KCn m) (v1 : Int) (q1 : R32 v1) : PC w D 57 [.ref 1000019, .int (i32 v1)] (khp m c, N) (QS (FP1 (khp m c, N)) (kf_String_indexOf0_b20009 v1 m)) := by
  refine Pc_of (fun D bb => ?_) D
  unfold kf_String_indexOf0_b20009
  show PP bb w D pm_57 (0, [(0, .ref 1000019), (1, .int (i32 v1))], [], (khp (mO m [] []) c, N), 0, 0) _
  refine P_ld 1 (.ref 1000019) rfl (fun _ => rfl) ?_
  refine P_ld 2 (.int (i32 v1)) rfl (fun _ => rfl) ?_
  refine P_ld 3 (.int (i32 0)) rfl (fun _ => rfl) ?_
  refine P_cp1 6 58 [.ref 1000019, .int (i32 v1), .int (i32 0)] [] rfl (fun _ => rfl) rfl (D_String_indexOf1_b20009 w m c N D hm v1 0 q1 (l32 0 rfl)) (fun y1 h2 => ?_)
  exact P_rp1 rfl h2
def kfl_String_isLatin1_b20008_18 (u0 : Int) (m : mR) : Option Int :=
  some u0
theorem dg_String_isLatin1_b20008_18 (w : wX) (c : Nat → Option am_C) (N D : Nat) (bb : Nat) (u0 : Int) (r0 : R32 u0) (m : mR) (hm : KCn m) (j : Nat → Int) : PP bb w D pm_6 (18, [(0, .ref 1000017)], [.int (i32 u0)], (khp m c, N), 0, 0) (QS (FP1 (khp m c, N)) (kfl_String_isLatin1_b20008_18 u0 m)) := by
  unfold kfl_String_isLatin1_b20008_18
  show PP bb w D pm_6 (18, [(0, .ref 1000017)], [.int (i32 u0)], (khp (mO m [] []) c, N), 0, 0) _
  exact P_rp1 rfl r0
def kf_String_isLatin1_b20008 (m : mR) : Option Int :=
  kfl_String_isLatin1_b20008_18 1 m
theorem D_String_isLatin1_b20008 (w : wX) (m : mR) (c : Nat → Option am_C) (N D : Nat) (hm : KCn m) : PC w D 6 [.ref 1000017] (khp m c, N) (QS (FP1 (khp m c, N)) (kf_String_isLatin1_b20008 m)) := by
  refine Pc_of (fun D bb => ?_) D
  unfold kf_String_isLatin1_b20008
  show PP bb w D pm_6 (0, [(0, .ref 1000017)], [], (khp (mO m [] []) c, N), 0, 0) _
  refine P_ld 3 (.int (i32 1)) rfl (fun _ => rfl) ?_
  refine P_ifN 17 6 rfl rfl rfl (l32 1 rfl) (by unfold cz; decide) ?_
  refine P_ld 7 (.ref 1000017) rfl (fun _ => rfl) ?_
  refine P_ld1 10 (.int (i32 0)) rfl (fun _ => rfl) ?_
  refine P_ifN 17 13 rfl rfl rfl (l32 0 rfl) (by unfold cz; decide) ?_
  refine P_ld 14 (.int (i32 1)) rfl (fun _ => rfl) ?_
  refine P_goto 18 rfl (fun _ => rfl) ?_
  exact dg_String_isLatin1_b20008_18 w c N D bb 1 (l32 1 rfl) m hm (jk [])
def kfl_String_coder_b20008_14 (u0 : Int) (m : mR) : Option Int :=
  some u0
theorem dg_String_coder_b20008_14 (w : wX) (c : Nat → Option am_C) (N D : Nat) (bb : Nat) (u0 : Int) (r0 : R32 u0) (m : mR) (hm : KCn m) (j : Nat → Int) : PP bb w D pm_4 (14, [(0, .ref 1000017)], [.int (i32 u0)], (khp m c, N), 0, 0) (QS (FP1 (khp m c, N)) (kfl_String_coder_b20008_14 u0 m)) := by
  unfold kfl_String_coder_b20008_14
  show PP bb w D pm_4 (14, [(0, .ref 1000017)], [.int (i32 u0)], (khp (mO m [] []) c, N), 0, 0) _
  exact P_rp1 rfl r0
def kf_String_coder_b20008 (m : mR) : Option Int :=
  kfl_String_coder_b20008_14 0 m
theorem D_String_coder_b20008 (w : wX) (m : mR) (c : Nat → Option am_C) (N D : Nat) (hm : KCn m) : PC w D 4 [.ref 1000017] (khp m c, N) (QS (FP1 (khp m c, N)) (kf_String_coder_b20008 m)) := by
  refine Pc_of (fun D bb => ?_) D
  unfold kf_String_coder_b20008
  show PP bb w D pm_4 (0, [(0, .ref 1000017)], [], (khp (mO m [] []) c, N), 0, 0) _
  refine P_ld 3 (.int (i32 1)) rfl (fun _ => rfl) ?_
  refine P_ifN 13 6 rfl rfl rfl (l32 1 rfl) (by unfold cz; decide) ?_
  refine P_ld 7 (.ref 1000017) rfl (fun _ => rfl) ?_
  refine P_ld1 10 (.int (i32 0)) rfl (fun _ => rfl) ?_
  refine P_goto 14 rfl (fun _ => rfl) ?_
  exact dg_String_coder_b20008_14 w c N D bb 0 (l32 0 rfl) m hm (jk [])
def kf_String_length_b20008 (m : mR) : Option Int :=
  some (shr32 6 0)
theorem D_String_length_b20008 (w : wX) (m : mR) (c : Nat → Option am_C) (N D : Nat) (hm : KCn m) : PC w D 3 [.ref 1000017] (khp m c, N) (QS (FP1 (khp m c, N)) (kf_String_length_b20008 m)) := by
  refine Pc_of (fun D bb => ?_) D
  unfold kf_String_length_b20008
  show PP bb w D pm_3 (0, [(0, .ref 1000017)], [], (khp (mO m [] []) c, N), 0, 0) _
  refine P_ld 1 (.ref 1000017) rfl (fun _ => rfl) ?_
  refine P_ld1 4 (.ref 1000018) rfl (fun _ => rfl) ?_
  refine P_ld1 5 (.int (i32 6)) rfl (fun _ => rfl) ?_
  refine P_ld 6 (.ref 1000017) rfl (fun _ => rfl) ?_
  refine P_cq1 9 4 [.ref 1000017] [.int (i32 6)] 0 rfl (fun _ => rfl) rfl (D_String_coder_b20008 w m c N D hm) rfl ?_
  refine P_op 10 (shr32 6 0) _ rfl (fun _ => rfl) (i32_of _).symm ?_
  exact P_rp1 rfl t32_r
end X28B
