noncomputable section X28F
def cs_pr_fieldOf_3 (s : Int) : Prop := R32 s
def cx_pr_fieldOf_3 : (Sum (Int) (Unit)) → Prop := (sel (fun (e : Int) => R32 e) (fun (e : Unit) => True))
def hd_pr_fieldOf_3 (c : Nat → Option am_C) (N : Nat) (v1 : Int) (v2 : Int) (v4 : Int) (m : mR) (s : Int) (j : Nat → Int) : ag_St af_T := (3, [(0, .ref 12), (1, .int (i32 v1)), (2, .long (i64 v2)), (4, .long (i64 v4)), (6, .int (i32 s)), (7, .int (i32 (j 7)))], [], (khp m c, N), 0, 0)
def ex_pr_fieldOf_3 (c : Nat → Option am_C) (N : Nat) (v1 : Int) (v2 : Int) (v4 : Int) (m : mR) : (Sum (Int) (Unit)) → (Nat → Int) → ag_St af_T := (sel (fun (e : Int) (j : Nat → Int) => ((54, [(0, .ref 12), (1, .int (i32 (j 1))), (2, .long (i64 (j 2))), (4, .long (i64 (j 4))), (6, .int (i32 e)), (7, .int (i32 (j 7)))], [], (khp m c, N), 0, 0) : ag_St af_T)) (fun (e : Unit) (j : Nat → Int) => ((63, [(0, .ref 12), (1, .int (i32 (j 1))), (2, .long (i64 (j 2))), (4, .long (i64 (j 4))), (6, .int (i32 (j 6))), (7, .int (i32 (j 7)))], [], (khp m c, N), 0, 0) : ag_St af_T)))
def kfl_pr_fieldOf_57 (v1 : Int) (v2 : Int) (v4 : Int) (v6 : Int) (m : mR) : Option (Sum (Int) (Sum (Int) (Unit))) :=
  some (.inl (cut (v6 + 1)))
theorem dg_pr_fieldOf_57 (w : wX) (c : Nat → Option am_C) (N D : Nat) (bb : Nat) (v1 : Int) (v2 : Int) (v4 : Int) (v6 : Int) (q1 : R32 v1) (q2 : R64 v2) (q4 : R64 v4) (q6 : R32 v6) (m : mR) (hm : KCn m) (j : Nat → Int) (Q2 : Sum (Int) (Sum (Int) (Unit)) → ag_Re af_T → Prop) (H1 : ∀ s j, cs_pr_fieldOf_3 s → PP bb w D pm_80 (hd_pr_fieldOf_3 c N v1 v2 v4 m s j) (Q2 (.inl s))) (H2 : ∀ x j, cx_pr_fieldOf_3 x → PP bb w D pm_80 (ex_pr_fieldOf_3 c N v1 v2 v4 m x j) (Q2 (.inr x))) : PP bb w D pm_80 (57, [(0, .ref 12), (1, .int (i32 v1)), (2, .long (i64 v2)), (4, .long (i64 v4)), (6, .int (i32 v6)), (7, .int (i32 (j 7)))], [], (khp m c, N), 0, 0) (QS Q2 (kfl_pr_fieldOf_57 v1 v2 v4 v6 m)) := by
  unfold kfl_pr_fieldOf_57
  show PP bb w D pm_80 (57, [(0, .ref 12), (1, .int (i32 v1)), (2, .long (i64 v2)), (4, .long (i64 v4)), (6, .int (i32 v6)), (7, .int (i32 (j 7)))], [], (khp (mO m [] []) c, N), 0, 0) _
  refine P_inc 60 [(6, .int (i32 (cut (v6 + 1)))), (0, .ref 12), (1, .int (i32 v1)), (2, .long (i64 v2)), (4, .long (i64 v4)), (7, .int (i32 (j 7)))] rfl rfl (by decide) rfl rfl ?_
  refine P_goto 3 rfl (fun _ => rfl) ?_
  refine P_some ?_
  refine P_lv (b := [(0, .ref 12), (1, .int (i32 v1)), (2, .long (i64 v2)), (4, .long (i64 v4)), (6, .int (i32 (cut (v6 + 1)))), (7, .int (i32 (j 7)))]) rfl rfl ⟨rfl, rfl, rfl, rfl, rfl, rfl, trivial⟩ ?_
  exact H1 (cut (v6 + 1)) (jk [(7, j 7)]) cut_r
def kfb_pr_fieldOf_3 (v1 : Int) (v2 : Int) (v4 : Int) (m : mR) (s : Int) : Option (Sum (Int) (Sum (Int) (Unit))) :=
  if (16 : Int) ≤ s then
    some (.inr (.inr ()))
  else
    if (m.2 10) (cut ((cut (v1 * 16)) + s)) ≤ 0 then
      kfl_pr_fieldOf_57 v1 v2 v4 s m
    else
      if cmp64 ((m.2 11) (cut ((cut (v1 * 16)) + s))) v2 = 0 then
        if cmp64 ((m.2 12) (cut ((cut (v1 * 16)) + s))) v4 = 0 then
          some (.inr (.inl s))
        else
          kfl_pr_fieldOf_57 v1 v2 v4 s m
      else
        kfl_pr_fieldOf_57 v1 v2 v4 s m
theorem dh_pr_fieldOf_3 (w : wX) (c : Nat → Option am_C) (N D : Nat) (v1 : Int) (v2 : Int) (v4 : Int) (q1 : R32 v1) (q2 : R64 v2) (q4 : R64 v4) (m : mR) (hm : KCn m) (bb : Nat) (Q2 : Sum (Int) (Sum (Int) (Unit)) → ag_Re af_T → Prop) (H1 : ∀ s j, cs_pr_fieldOf_3 s → PP bb w D pm_80 (hd_pr_fieldOf_3 c N v1 v2 v4 m s j) (Q2 (.inl s))) (H2 : ∀ x j, cx_pr_fieldOf_3 x → PP bb w D pm_80 (ex_pr_fieldOf_3 c N v1 v2 v4 m x j) (Q2 (.inr x))) (s : Int) (j : Nat → Int) (hs : cs_pr_fieldOf_3 s) : PP (bb + 1) w D pm_80 (hd_pr_fieldOf_3 c N v1 v2 v4 m s j) (QS Q2 (kfb_pr_fieldOf_3 v1 v2 v4 m s)) := by
  have g6 := hs
  unfold kfb_pr_fieldOf_3
  show PP (bb + 1) w D pm_80 (3, [(0, .ref 12), (1, .int (i32 v1)), (2, .long (i64 v2)), (4, .long (i64 v4)), (6, .int (i32 s)), (7, .int (i32 (j 7)))], [], (khp (mO m [] []) c, N), 0, 0) _
  refine P1_ld 5 (.int (i32 s)) rfl (fun _ => rfl) ?_
  refine P_ld 7 (.int (i32 16)) rfl (fun _ => rfl) ?_
  refine P_icF 63 10 rfl rfl rfl g6 (l32 16 rfl) rfl (fun h3 => ?_) (fun h3 => ?_)
  · skip
    refine P_some ?_
    exact H2 (.inr ()) (jk [(1, v1), (2, v2), (4, v4), (6, s), (7, j 7)]) trivial
  · skip
    refine P_ld 11 (.int (i32 v1)) rfl (fun _ => rfl) ?_
    refine P_ld 13 (.int (i32 16)) rfl (fun _ => rfl) ?_
    refine P_op 14 (cut (v1 * 16)) _ rfl (fun _ => rfl) o_mul ?_
    refine P_ld 16 (.int (i32 s)) rfl (fun _ => rfl) ?_
    refine P_op 17 (cut ((cut (v1 * 16)) + s)) _ rfl (fun _ => rfl) o_add ?_
    refine P_sto 19 [(7, .int (i32 (cut ((cut (v1 * 16)) + s)))), (0, .ref 12), (1, .int (i32 v1)), (2, .long (i64 v2)), (4, .long (i64 v4)), (6, .int (i32 s))] rfl (fun _ => rfl) ?_
    refine P_ld 20 (.ref 12) rfl (fun _ => rfl) ?_
    refine PK_gf 23 (.ref 13) rfl rfl kd_12 rfl rfl rfl ?_
    refine P_ld 25 (.int (i32 (cut ((cut (v1 * 16)) + s)))) rfl (fun _ => rfl) ?_
    refine PK_iald2 26 10 (m.2 10) rfl rfl rfl cut_r rfl ?_
    refine P_ifF 57 29 rfl rfl rfl (kE_i (KCn_a hm 10) rfl _) rfl (fun h4 => ?_) (fun h4 => ?_)
    · skip
      refine P_lv (b := [(0, .ref 12), (1, .int (i32 v1)), (2, .long (i64 v2)), (4, .long (i64 v4)), (6, .int (i32 s)), (7, .int (i32 (cut ((cut (v1 * 16)) + s))))]) rfl rfl ⟨rfl, rfl, rfl, rfl, rfl, rfl, trivial⟩ ?_
      exact dg_pr_fieldOf_57 w c N D bb v1 v2 v4 s q1 q2 q4 g6 m hm (jk [(7, cut ((cut (v1 * 16)) + s))]) Q2 H1 H2
    · skip
      refine P_ld 30 (.ref 12) rfl (fun _ => rfl) ?_
      refine PK_gf 33 (.ref 14) rfl rfl kd_12 rfl rfl rfl ?_
      refine P_ld 35 (.int (i32 (cut ((cut (v1 * 16)) + s)))) rfl (fun _ => rfl) ?_
      refine PK_lald2 36 11 (m.2 11) rfl rfl rfl cut_r rfl ?_
      refine P_ld 37 (.long (i64 v2)) rfl (fun _ => rfl) ?_
      refine P_op 38 (cmp64 ((m.2 11) (cut ((cut (v1 * 16)) + s))) v2) _ rfl (fun _ => rfl) (o_cmp (kE_l (KCn_a hm 11) rfl _) q2) ?_
      refine P_ifE 57 41 rfl rfl rfl cmp64_r rfl (fun h5 => ?_) (fun h5 => ?_)
      · skip
        refine P_ld 42 (.ref 12) rfl (fun _ => rfl) ?_
        refine PK_gf 45 (.ref 15) rfl rfl kd_12 rfl rfl rfl ?_
        refine P_ld 47 (.int (i32 (cut ((cut (v1 * 16)) + s)))) rfl (fun _ => rfl) ?_
        refine PK_lald2 48 12 (m.2 12) rfl rfl rfl cut_r rfl ?_
        refine P_ld 50 (.long (i64 v4)) rfl (fun _ => rfl) ?_
        refine P_op 51 (cmp64 ((m.2 12) (cut ((cut (v1 * 16)) + s))) v4) _ rfl (fun _ => rfl) (o_cmp (kE_l (KCn_a hm 12) rfl _) q4) ?_
        refine P_ifE 57 54 rfl rfl rfl cmp64_r rfl (fun h6 => ?_) (fun h6 => ?_)
        · skip
          refine P_some ?_
          refine P_lv (b := [(0, .ref 12), (1, .int (i32 v1)), (2, .long (i64 v2)), (4, .long (i64 v4)), (6, .int (i32 s)), (7, .int (i32 (cut ((cut (v1 * 16)) + s))))]) rfl rfl ⟨rfl, rfl, rfl, rfl, rfl, rfl, trivial⟩ ?_
          exact H2 (.inl s) (jk [(1, v1), (2, v2), (4, v4), (7, cut ((cut (v1 * 16)) + s))]) g6
        · skip
          refine P_lv (b := [(0, .ref 12), (1, .int (i32 v1)), (2, .long (i64 v2)), (4, .long (i64 v4)), (6, .int (i32 s)), (7, .int (i32 (cut ((cut (v1 * 16)) + s))))]) rfl rfl ⟨rfl, rfl, rfl, rfl, rfl, rfl, trivial⟩ ?_
          exact dg_pr_fieldOf_57 w c N D bb v1 v2 v4 s q1 q2 q4 g6 m hm (jk [(7, cut ((cut (v1 * 16)) + s))]) Q2 H1 H2
      · skip
        refine P_lv (b := [(0, .ref 12), (1, .int (i32 v1)), (2, .long (i64 v2)), (4, .long (i64 v4)), (6, .int (i32 s)), (7, .int (i32 (cut ((cut (v1 * 16)) + s))))]) rfl rfl ⟨rfl, rfl, rfl, rfl, rfl, rfl, trivial⟩ ?_
        exact dg_pr_fieldOf_57 w c N D bb v1 v2 v4 s q1 q2 q4 g6 m hm (jk [(7, cut ((cut (v1 * 16)) + s))]) Q2 H1 H2
def kf_pr_fieldOf (v1 : Int) (v2 : Int) (v4 : Int) (m : mR) : Option Int :=
  bnd (whl (kfb_pr_fieldOf_3 v1 v2 v4 m) 0) (sel
    (fun e7 : Int =>
      some e7)
    (fun e10 : Unit =>
      some (-1)))
theorem D_pr_fieldOf (w : wX) (m : mR) (c : Nat → Option am_C) (N D : Nat) (hm : KCn m) (v1 : Int) (v2 : Int) (v4 : Int) (q1 : R32 v1) (q2 : R64 v2) (q4 : R64 v4) : PC w D 80 [.ref 12, .int (i32 v1), .long (i64 v2), .long (i64 v4)] (khp m c, N) (QS (FP1 (khp m c, N)) (kf_pr_fieldOf v1 v2 v4 m)) := by
  refine Pc_of (fun D bb => ?_) D
  unfold kf_pr_fieldOf
  show PP bb w D pm_80 (0, [(0, .ref 12), (1, .int (i32 v1)), (2, .long (i64 v2)), (4, .long (i64 v4))], [], (khp (mO m [] []) c, N), 0, 0) _
  refine P_ld 1 (.int (i32 0)) rfl (fun _ => rfl) ?_
  refine P_sto 3 [(6, .int (i32 0)), (0, .ref 12), (1, .int (i32 v1)), (2, .long (i64 v2)), (4, .long (i64 v4))] rfl (fun _ => rfl) ?_
  refine P_lv (b := [(0, .ref 12), (1, .int (i32 v1)), (2, .long (i64 v2)), (4, .long (i64 v4)), (6, .int (i32 0)), (7, .int (i32 0))]) rfl rfl ⟨rfl, rfl, rfl, rfl, rfl, trivial⟩ ?_
  refine P_bnd ?_
  refine P_whl (fun bb Q2 H1 H2 s9 j9 hs9 => dh_pr_fieldOf_3 w c N D v1 v2 v4 q1 q2 q4 m hm bb Q2 H1 H2 s9 j9 hs9) bb (fun x0 j hx0 => ?_) 0 (jk []) (l32 0 rfl)
  cases x0 with
  | inl e7 =>
    have q8 := hx0
    have q9 := q8
    show PP bb w D pm_80 (54, [(0, .ref 12), (1, .int (i32 (j 1))), (2, .long (i64 (j 2))), (4, .long (i64 (j 4))), (6, .int (i32 e7)), (7, .int (i32 (j 7)))], [], (khp (mO m [] []) c, N), 0, 0) (QS _ (some e7))
    refine P_ld 56 (.int (i32 e7)) rfl (fun _ => rfl) ?_
    exact P_rp1 rfl q9
  | inr e10 =>
    have q11 := hx0
    show PP bb w D pm_80 (63, [(0, .ref 12), (1, .int (i32 (j 1))), (2, .long (i64 (j 2))), (4, .long (i64 (j 4))), (6, .int (i32 (j 6))), (7, .int (i32 (j 7)))], [], (khp (mO m [] []) c, N), 0, 0) (QS _ (some (-1)))
    refine P_ld 64 (.int (i32 (-1))) rfl (fun _ => rfl) ?_
    exact P_rp1 rfl (l32 (-1) rfl)
def kfl_fm_placeSlot_166 (v2 : Int) (v3 : Int) (m : mR) : Option (Int × Int × mR) :=
  bnd (kf_tx_advance m) fun y1 =>
  if y1.1 = 0 then
    some (0, cut ((cut ((cut (v2 * 17)) + 1)) + v3), y1.2.2)
  else
    some (y1.1, 0, y1.2.2)
theorem dg_fm_placeSlot_166 (w : wX) (c : Nat → Option am_C) (N D : Nat) (bb : Nat) (v2 : Int) (v3 : Int) (q2 : R32 v2) (q3 : R32 v3) (m : mR) (hm : KCn m) (j : Nat → Int) : PP bb w D pm_99 (166, [(0, .ref 181), (1, .int (i32 (j 1))), (2, .int (i32 v2)), (3, .int (i32 v3))], [], (khp m c, N), 0, 0) (QS (FX1 c N) (kfl_fm_placeSlot_166 v2 v3 m)) := by
  unfold kfl_fm_placeSlot_166
  show PP bb w D pm_99 (166, [(0, .ref 181), (1, .int (i32 (j 1))), (2, .int (i32 v2)), (3, .int (i32 v3))], [], (khp (mO m [] []) c, N), 0, 0) _
  refine P_ld 167 (.ref 181) rfl (fun _ => rfl) ?_
  refine PK_gf 170 (.ref 6) rfl rfl kd_181 rfl rfl rfl ?_
  refine P_cx0 173 50 [.ref 6] [] rfl (fun _ => rfl) rfl rfl (D_tx_advance w m c N D hm) (fun y x hm e => ⟨_, rfl, hm, Or.inr ⟨x, e, rfl⟩⟩) (fun y1 n3 => ?_)
  refine P_ld 174 (.int (i32 v2)) rfl (fun _ => rfl) ?_
  refine P_ld 176 (.int (i32 17)) rfl (fun _ => rfl) ?_
  refine P_op 177 (cut (v2 * 17)) _ rfl (fun _ => rfl) o_mul ?_
  refine P_ld 178 (.int (i32 1)) rfl (fun _ => rfl) ?_
  refine P_op 179 (cut ((cut (v2 * 17)) + 1)) _ rfl (fun _ => rfl) o_add ?_
  refine P_ld 180 (.int (i32 v3)) rfl (fun _ => rfl) ?_
  refine P_op 181 (cut ((cut ((cut (v2 * 17)) + 1)) + v3)) _ rfl (fun _ => rfl) o_add ?_
  exact P_rx1 rfl cut_r n3
def kfl_fm_placeSlot_114 (v2 : Int) (m : mR) : Option (Int × Int × mR) :=
  bnd (kf_pr_fieldOf ((m.2 13) v2) (m.1 209) (m.1 210) m) fun y4 =>
  if y4 = (-1) then
    bnd (kf_tx_fail 6 (m.1 207) m) fun y8 =>
    if y8.1 = 0 then
      kfl_fm_placeSlot_166 v2 y4 y8.2.2
    else
      some (y8.1, 0, y8.2.2)
  else
    kfl_fm_placeSlot_166 v2 y4 m
theorem dg_fm_placeSlot_114 (w : wX) (c : Nat → Option am_C) (N D : Nat) (bb : Nat) (v2 : Int) (q2 : R32 v2) (m : mR) (hm : KCn m) (j : Nat → Int) : PP bb w D pm_99 (114, [(0, .ref 181), (1, .int (i32 (j 1))), (2, .int (i32 v2))], [], (khp m c, N), 0, 0) (QS (FX1 c N) (kfl_fm_placeSlot_114 v2 m)) := by
  unfold kfl_fm_placeSlot_114
  show PP bb w D pm_99 (114, [(0, .ref 181), (1, .int (i32 (j 1))), (2, .int (i32 v2))], [], (khp (mO m [] []) c, N), 0, 0) _
  refine P_ld 115 (.ref 181) rfl (fun _ => rfl) ?_
  refine PK_gf 118 (.ref 12) rfl rfl kd_181 rfl rfl rfl ?_
  refine P_ld 119 (.ref 181) rfl (fun _ => rfl) ?_
  refine PK_gf 122 (.ref 12) rfl rfl kd_181 rfl rfl rfl ?_
  refine PK_gf 125 (.ref 16) rfl rfl kd_12 rfl rfl rfl ?_
  refine P_ld 126 (.int (i32 v2)) rfl (fun _ => rfl) ?_
  refine PK_iald2 127 13 (m.2 13) rfl rfl rfl q2 rfl ?_
  refine P_ld 128 (.ref 181) rfl (fun _ => rfl) ?_
  refine PK_gf 131 (.ref 6) rfl rfl kd_181 rfl rfl rfl ?_
  refine PK_gf 134 (.long (i64 (m.1 209))) rfl rfl kd_6 rfl rfl rfl ?_
  refine P_ld 135 (.ref 181) rfl (fun _ => rfl) ?_
  refine PK_gf 138 (.ref 6) rfl rfl kd_181 rfl rfl rfl ?_
  refine PK_gf 141 (.long (i64 (m.1 210))) rfl rfl kd_6 rfl rfl rfl ?_
  refine P_cp1 144 80 [.ref 12, .int (i32 ((m.2 13) v2)), .long (i64 (m.1 209)), .long (i64 (m.1 210))] [] rfl (fun _ => rfl) rfl (D_pr_fieldOf w m c N D hm ((m.2 13) v2) (m.1 209) (m.1 210) (kE_i (KCn_a hm 13) rfl _) (KCn_l hm 209 rfl) (KCn_l hm 210 rfl)) (fun y4 h5 => ?_)
  refine P_sto 145 [(3, .int (i32 y4)), (0, .ref 181), (1, .int (i32 (j 1))), (2, .int (i32 v2))] rfl (fun _ => rfl) ?_
  refine P_ld 146 (.int (i32 y4)) rfl (fun _ => rfl) ?_
  refine P_ld 147 (.int (i32 (-1))) rfl (fun _ => rfl) ?_
  refine P_icE 166 150 rfl rfl rfl h5 (l32 (-1) rfl) rfl (fun h7 => ?_) (fun h7 => ?_)
  · skip
    refine P_ld 151 (.ref 181) rfl (fun _ => rfl) ?_
    refine PK_gf 154 (.ref 6) rfl rfl kd_181 rfl rfl rfl ?_
    refine P_ld 156 (.int (i32 6)) rfl (fun _ => rfl) ?_
    refine P_ld 157 (.ref 181) rfl (fun _ => rfl) ?_
    refine PK_gf 160 (.ref 6) rfl rfl kd_181 rfl rfl rfl ?_
    refine PK_gf 163 (.int (i32 (m.1 207))) rfl rfl kd_6 rfl rfl rfl ?_
    refine P_cx0 166 51 [.ref 6, .int (i32 6), .int (i32 (m.1 207))] [] rfl (fun _ => rfl) rfl rfl (D_tx_fail w m c N D hm 6 (m.1 207) (l32 6 rfl) (KCn_i hm 207 rfl)) (fun y x hm e => ⟨_, rfl, hm, Or.inr ⟨x, e, rfl⟩⟩) (fun y8 n10 => ?_)
    refine P_lv (b := [(0, .ref 181), (1, .int (i32 (j 1))), (2, .int (i32 v2)), (3, .int (i32 y4))]) rfl rfl ⟨rfl, rfl, rfl, rfl, trivial⟩ ?_
    exact dg_fm_placeSlot_166 w c N D bb v2 y4 q2 h5 y8.2.2 n10 (jk [(1, j 1)])
  · skip
    refine P_lv (b := [(0, .ref 181), (1, .int (i32 (j 1))), (2, .int (i32 v2)), (3, .int (i32 y4))]) rfl rfl ⟨rfl, rfl, rfl, rfl, trivial⟩ ?_
    exact dg_fm_placeSlot_166 w c N D bb v2 y4 q2 h5 m hm (jk [(1, j 1)])
def kfl_fm_placeSlot_87 (v2 : Int) (m : mR) : Option (Int × Int × mR) :=
  bnd (kf_tx_advance m) fun y11 =>
  if y11.1 = 0 then
    if y11.2.2.1 206 = 256 then
      kfl_fm_placeSlot_114 v2 y11.2.2
    else
      bnd (kf_tx_refuse y11.2.2) fun y15 =>
      if y15.1 = 0 then
        kfl_fm_placeSlot_114 v2 y15.2.2
      else
        some (y15.1, 0, y15.2.2)
  else
    some (y11.1, 0, y11.2.2)
theorem dg_fm_placeSlot_87 (w : wX) (c : Nat → Option am_C) (N D : Nat) (bb : Nat) (v2 : Int) (q2 : R32 v2) (m : mR) (hm : KCn m) (j : Nat → Int) : PP bb w D pm_99 (87, [(0, .ref 181), (1, .int (i32 (j 1))), (2, .int (i32 v2))], [], (khp m c, N), 0, 0) (QS (FX1 c N) (kfl_fm_placeSlot_87 v2 m)) := by
  unfold kfl_fm_placeSlot_87
  show PP bb w D pm_99 (87, [(0, .ref 181), (1, .int (i32 (j 1))), (2, .int (i32 v2))], [], (khp (mO m [] []) c, N), 0, 0) _
  refine P_ld 88 (.ref 181) rfl (fun _ => rfl) ?_
  refine PK_gf 91 (.ref 6) rfl rfl kd_181 rfl rfl rfl ?_
  refine P_cx0 94 50 [.ref 6] [] rfl (fun _ => rfl) rfl rfl (D_tx_advance w m c N D hm) (fun y x hm e => ⟨_, rfl, hm, Or.inr ⟨x, e, rfl⟩⟩) (fun y11 n13 => ?_)
  refine P_ld 95 (.ref 181) rfl (fun _ => rfl) ?_
  refine PK_gf 98 (.ref 6) rfl rfl kd_181 rfl rfl rfl ?_
  refine PK_gf 101 (.int (i32 (y11.2.2.1 206))) rfl rfl kd_6 rfl rfl rfl ?_
  refine P_ld 104 (.int (i32 256)) rfl (fun _ => rfl) ?_
  refine P_icF 114 107 rfl rfl rfl (KCn_i n13 206 rfl) (l32 256 rfl) rfl (fun h14 => ?_) (fun h14 => ?_)
  · skip
    exact dg_fm_placeSlot_114 w c N D bb v2 q2 y11.2.2 n13 (jk [(1, j 1)])
  · skip
    refine P_ld 108 (.ref 181) rfl (fun _ => rfl) ?_
    refine PK_gf 111 (.ref 6) rfl rfl kd_181 rfl rfl rfl ?_
    refine P_cx0 114 76 [.ref 6] [] rfl (fun _ => rfl) rfl rfl (D_tx_refuse w y11.2.2 c N D n13) (fun y x hm e => ⟨_, rfl, hm, Or.inr ⟨x, e, rfl⟩⟩) (fun y15 n17 => ?_)
    exact dg_fm_placeSlot_114 w c N D bb v2 q2 y15.2.2 n17 (jk [(1, j 1)])
def kfl_fm_placeSlot_61 (v2 : Int) (m : mR) : Option (Int × Int × mR) :=
  bnd (kf_tx_advance m) fun y18 =>
  if y18.1 = 0 then
    if y18.2.2.1 206 = 46 then
      kfl_fm_placeSlot_87 v2 y18.2.2
    else
      bnd (kf_tx_refuse y18.2.2) fun y22 =>
      if y22.1 = 0 then
        kfl_fm_placeSlot_87 v2 y22.2.2
      else
        some (y22.1, 0, y22.2.2)
  else
    some (y18.1, 0, y18.2.2)
theorem dg_fm_placeSlot_61 (w : wX) (c : Nat → Option am_C) (N D : Nat) (bb : Nat) (v2 : Int) (q2 : R32 v2) (m : mR) (hm : KCn m) (j : Nat → Int) : PP bb w D pm_99 (61, [(0, .ref 181), (1, .int (i32 (j 1))), (2, .int (i32 v2))], [], (khp m c, N), 0, 0) (QS (FX1 c N) (kfl_fm_placeSlot_61 v2 m)) := by
  unfold kfl_fm_placeSlot_61
  show PP bb w D pm_99 (61, [(0, .ref 181), (1, .int (i32 (j 1))), (2, .int (i32 v2))], [], (khp (mO m [] []) c, N), 0, 0) _
  refine P_ld 62 (.ref 181) rfl (fun _ => rfl) ?_
  refine PK_gf 65 (.ref 6) rfl rfl kd_181 rfl rfl rfl ?_
  refine P_cx0 68 50 [.ref 6] [] rfl (fun _ => rfl) rfl rfl (D_tx_advance w m c N D hm) (fun y x hm e => ⟨_, rfl, hm, Or.inr ⟨x, e, rfl⟩⟩) (fun y18 n20 => ?_)
  refine P_ld 69 (.ref 181) rfl (fun _ => rfl) ?_
  refine PK_gf 72 (.ref 6) rfl rfl kd_181 rfl rfl rfl ?_
  refine PK_gf 75 (.int (i32 (y18.2.2.1 206))) rfl rfl kd_6 rfl rfl rfl ?_
  refine P_ld 77 (.int (i32 46)) rfl (fun _ => rfl) ?_
  refine P_icF 87 80 rfl rfl rfl (KCn_i n20 206 rfl) (l32 46 rfl) rfl (fun h21 => ?_) (fun h21 => ?_)
  · skip
    exact dg_fm_placeSlot_87 w c N D bb v2 q2 y18.2.2 n20 (jk [(1, j 1)])
  · skip
    refine P_ld 81 (.ref 181) rfl (fun _ => rfl) ?_
    refine PK_gf 84 (.ref 6) rfl rfl kd_181 rfl rfl rfl ?_
    refine P_cx0 87 76 [.ref 6] [] rfl (fun _ => rfl) rfl rfl (D_tx_refuse w y18.2.2 c N D n20) (fun y x hm e => ⟨_, rfl, hm, Or.inr ⟨x, e, rfl⟩⟩) (fun y22 n24 => ?_)
    exact dg_fm_placeSlot_87 w c N D bb v2 q2 y22.2.2 n24 (jk [(1, j 1)])
def kf_fm_placeSlot (m : mR) : Option (Int × Int × mR) :=
  bnd (kf_tx_indexOf 302 m) fun y25 =>
  if y25 = (-1) then
    bnd (kf_tx_indexOf 301 m) fun y29 =>
    if y29 = (-1) then
      bnd (kf_tx_fail 6 (m.1 207) m) fun y33 =>
      if y33.1 = 0 then
        kfl_fm_placeSlot_61 y29 y33.2.2
      else
        some (y33.1, 0, y33.2.2)
    else
      kfl_fm_placeSlot_61 y29 m
  else
    bnd (kf_tx_advance m) fun y36 =>
    if y36.1 = 0 then
      some (0, cut (204 + y25), y36.2.2)
    else
      some (y36.1, 0, y36.2.2)
theorem D_fm_placeSlot (w : wX) (m : mR) (c : Nat → Option am_C) (N D : Nat) (hm : KCn m) : PC w D 99 [.ref 181] (khp m c, N) (QS (FX1 c N) (kf_fm_placeSlot m)) := by
  refine Pc_of (fun D bb => ?_) D
  unfold kf_fm_placeSlot
  show PP bb w D pm_99 (0, [(0, .ref 181)], [], (khp (mO m [] []) c, N), 0, 0) _
  refine P_ld 1 (.ref 181) rfl (fun _ => rfl) ?_
  refine PK_gf 4 (.ref 6) rfl rfl kd_181 rfl rfl rfl ?_
  refine P_ld 7 (.int (i32 302)) rfl (fun _ => rfl) ?_
  refine P_cp1 10 84 [.ref 6, .int (i32 302)] [] rfl (fun _ => rfl) rfl (D_tx_indexOf w m c N D hm 302 (l32 302 rfl)) (fun y25 h26 => ?_)
  refine P_sto 11 [(1, .int (i32 y25)), (0, .ref 181)] rfl (fun _ => rfl) ?_
  refine P_ld 12 (.int (i32 y25)) rfl (fun _ => rfl) ?_
  refine P_ld 13 (.int (i32 (-1))) rfl (fun _ => rfl) ?_
  refine P_icF 29 16 rfl rfl rfl h26 (l32 (-1) rfl) rfl (fun h28 => ?_) (fun h28 => ?_)
  · skip
    refine P_ld 30 (.ref 181) rfl (fun _ => rfl) ?_
    refine PK_gf 33 (.ref 6) rfl rfl kd_181 rfl rfl rfl ?_
    refine P_ld 36 (.int (i32 301)) rfl (fun _ => rfl) ?_
    refine P_cp1 39 84 [.ref 6, .int (i32 301)] [] rfl (fun _ => rfl) rfl (D_tx_indexOf w m c N D hm 301 (l32 301 rfl)) (fun y29 h30 => ?_)
    refine P_sto 40 [(2, .int (i32 y29)), (1, .int (i32 y25)), (0, .ref 181)] rfl (fun _ => rfl) ?_
    refine P_ld 41 (.int (i32 y29)) rfl (fun _ => rfl) ?_
    refine P_ld 42 (.int (i32 (-1))) rfl (fun _ => rfl) ?_
    refine P_icE 61 45 rfl rfl rfl h30 (l32 (-1) rfl) rfl (fun h32 => ?_) (fun h32 => ?_)
    · skip
      refine P_ld 46 (.ref 181) rfl (fun _ => rfl) ?_
      refine PK_gf 49 (.ref 6) rfl rfl kd_181 rfl rfl rfl ?_
      refine P_ld 51 (.int (i32 6)) rfl (fun _ => rfl) ?_
      refine P_ld 52 (.ref 181) rfl (fun _ => rfl) ?_
      refine PK_gf 55 (.ref 6) rfl rfl kd_181 rfl rfl rfl ?_
      refine PK_gf 58 (.int (i32 (m.1 207))) rfl rfl kd_6 rfl rfl rfl ?_
      refine P_cx0 61 51 [.ref 6, .int (i32 6), .int (i32 (m.1 207))] [] rfl (fun _ => rfl) rfl rfl (D_tx_fail w m c N D hm 6 (m.1 207) (l32 6 rfl) (KCn_i hm 207 rfl)) (fun y x hm e => ⟨_, rfl, hm, Or.inr ⟨x, e, rfl⟩⟩) (fun y33 n35 => ?_)
      refine P_lv (b := [(0, .ref 181), (1, .int (i32 y25)), (2, .int (i32 y29))]) rfl rfl ⟨rfl, rfl, rfl, trivial⟩ ?_
      exact dg_fm_placeSlot_61 w c N D bb y29 h30 y33.2.2 n35 (jk [(1, y25)])
    · skip
      refine P_lv (b := [(0, .ref 181), (1, .int (i32 y25)), (2, .int (i32 y29))]) rfl rfl ⟨rfl, rfl, rfl, trivial⟩ ?_
      exact dg_fm_placeSlot_61 w c N D bb y29 h30 m hm (jk [(1, y25)])
  · skip
    refine P_ld 17 (.ref 181) rfl (fun _ => rfl) ?_
    refine PK_gf 20 (.ref 6) rfl rfl kd_181 rfl rfl rfl ?_
    refine P_cx0 23 50 [.ref 6] [] rfl (fun _ => rfl) rfl rfl (D_tx_advance w m c N D hm) (fun y x hm e => ⟨_, rfl, hm, Or.inr ⟨x, e, rfl⟩⟩) (fun y36 n38 => ?_)
    refine P_ld 26 (.int (i32 204)) rfl (fun _ => rfl) ?_
    refine P_ld 27 (.int (i32 y25)) rfl (fun _ => rfl) ?_
    refine P_op 28 (cut (204 + y25)) _ rfl (fun _ => rfl) o_add ?_
    exact P_rx1 rfl cut_r n38
def kfl_rd_writtenSlot_56 (m : mR) : Option (Int × Int × mR) :=
  bnd (kf_fm_placeSlot m) fun y1 =>
  if y1.1 = 0 then
    some (0, y1.2.1, y1.2.2)
  else
    some (y1.1, 0, y1.2.2)
theorem dg_rd_writtenSlot_56 (w : wX) (c : Nat → Option am_C) (N D : Nat) (bb : Nat) (m : mR) (hm : KCn m) (j : Nat → Int) : PP bb w D pm_124 (56, [(0, .ref 178), (1, .int (i32 (j 1)))], [], (khp m c, N), 0, 0) (QS (FX1 c N) (kfl_rd_writtenSlot_56 m)) := by
  unfold kfl_rd_writtenSlot_56
  show PP bb w D pm_124 (56, [(0, .ref 178), (1, .int (i32 (j 1)))], [], (khp (mO m [] []) c, N), 0, 0) _
  refine P_ld 57 (.ref 178) rfl (fun _ => rfl) ?_
  refine PK_gf 60 (.ref 181) rfl rfl kd_178 rfl rfl rfl ?_
  refine P_cx1 63 99 [.ref 181] [] rfl (fun _ => rfl) rfl rfl (D_fm_placeSlot w m c N D hm) (fun y x hm e => ⟨_, rfl, hm, Or.inr ⟨x, e, rfl⟩⟩) (fun y1 h2 n3 => ?_)
  exact P_rx1 rfl h2 n3
def kfl_rd_writtenSlot_40 (m : mR) : Option (Int × Int × mR) :=
  bnd (kf_tx_fail 6 (m.1 207) m) fun y4 =>
  if y4.1 = 0 then
    kfl_rd_writtenSlot_56 y4.2.2
  else
    some (y4.1, 0, y4.2.2)
theorem dg_rd_writtenSlot_40 (w : wX) (c : Nat → Option am_C) (N D : Nat) (bb : Nat) (m : mR) (hm : KCn m) (j : Nat → Int) : PP bb w D pm_124 (40, [(0, .ref 178), (1, .int (i32 (j 1)))], [], (khp m c, N), 0, 0) (QS (FX1 c N) (kfl_rd_writtenSlot_40 m)) := by
  unfold kfl_rd_writtenSlot_40
  show PP bb w D pm_124 (40, [(0, .ref 178), (1, .int (i32 (j 1)))], [], (khp (mO m [] []) c, N), 0, 0) _
  refine P_ld 41 (.ref 178) rfl (fun _ => rfl) ?_
  refine PK_gf 44 (.ref 6) rfl rfl kd_178 rfl rfl rfl ?_
  refine P_ld 46 (.int (i32 6)) rfl (fun _ => rfl) ?_
  refine P_ld 47 (.ref 178) rfl (fun _ => rfl) ?_
  refine PK_gf 50 (.ref 6) rfl rfl kd_178 rfl rfl rfl ?_
  refine PK_gf 53 (.int (i32 (m.1 207))) rfl rfl kd_6 rfl rfl rfl ?_
  refine P_cx0 56 51 [.ref 6, .int (i32 6), .int (i32 (m.1 207))] [] rfl (fun _ => rfl) rfl rfl (D_tx_fail w m c N D hm 6 (m.1 207) (l32 6 rfl) (KCn_i hm 207 rfl)) (fun y x hm e => ⟨_, rfl, hm, Or.inr ⟨x, e, rfl⟩⟩) (fun y4 n6 => ?_)
  exact dg_rd_writtenSlot_56 w c N D bb y4.2.2 n6 (jk [(1, j 1)])
def kfl_rd_writtenSlot_20 (m : mR) : Option (Int × Int × mR) :=
  bnd (kf_tx_indexOf 302 m) fun y7 =>
  if y7 = 0 then
    kfl_rd_writtenSlot_40 m
  else
    if y7 = 1 then
      kfl_rd_writtenSlot_40 m
    else
      kfl_rd_writtenSlot_56 m
theorem dg_rd_writtenSlot_20 (w : wX) (c : Nat → Option am_C) (N D : Nat) (bb : Nat) (m : mR) (hm : KCn m) (j : Nat → Int) : PP bb w D pm_124 (20, [(0, .ref 178)], [], (khp m c, N), 0, 0) (QS (FX1 c N) (kfl_rd_writtenSlot_20 m)) := by
  unfold kfl_rd_writtenSlot_20
  show PP bb w D pm_124 (20, [(0, .ref 178)], [], (khp (mO m [] []) c, N), 0, 0) _
  refine P_ld 21 (.ref 178) rfl (fun _ => rfl) ?_
  refine PK_gf 24 (.ref 6) rfl rfl kd_178 rfl rfl rfl ?_
  refine P_ld 27 (.int (i32 302)) rfl (fun _ => rfl) ?_
  refine P_cp1 30 84 [.ref 6, .int (i32 302)] [] rfl (fun _ => rfl) rfl (D_tx_indexOf w m c N D hm 302 (l32 302 rfl)) (fun y7 h8 => ?_)
  refine P_sto 31 [(1, .int (i32 y7)), (0, .ref 178)] rfl (fun _ => rfl) ?_
  refine P_ld 32 (.int (i32 y7)) rfl (fun _ => rfl) ?_
  refine P_ifF 40 35 rfl rfl rfl h8 rfl (fun h10 => ?_) (fun h10 => ?_)
  · skip
    refine P_lv (b := [(0, .ref 178), (1, .int (i32 y7))]) rfl rfl ⟨rfl, rfl, trivial⟩ ?_
    exact dg_rd_writtenSlot_40 w c N D bb m hm (jk [(1, y7)])
  · skip
    refine P_ld 36 (.int (i32 y7)) rfl (fun _ => rfl) ?_
    refine P_ld 37 (.int (i32 1)) rfl (fun _ => rfl) ?_
    refine P_icE 56 40 rfl rfl rfl h8 (l32 1 rfl) rfl (fun h11 => ?_) (fun h11 => ?_)
    · skip
      refine P_lv (b := [(0, .ref 178), (1, .int (i32 y7))]) rfl rfl ⟨rfl, rfl, trivial⟩ ?_
      exact dg_rd_writtenSlot_40 w c N D bb m hm (jk [(1, y7)])
    · skip
      refine P_lv (b := [(0, .ref 178), (1, .int (i32 y7))]) rfl rfl ⟨rfl, rfl, trivial⟩ ?_
      exact dg_rd_writtenSlot_56 w c N D bb m hm (jk [(1, y7)])
def kf_rd_writtenSlot (m : mR) : Option (Int × Int × mR) :=
  if m.1 206 = 256 then
    kfl_rd_writtenSlot_20 m
  else
    bnd (kf_tx_refuse m) fun y13 =>
    if y13.1 = 0 then
      kfl_rd_writtenSlot_20 y13.2.2
    else
      some (y13.1, 0, y13.2.2)
theorem D_rd_writtenSlot (w : wX) (m : mR) (c : Nat → Option am_C) (N D : Nat) (hm : KCn m) : PC w D 124 [.ref 178] (khp m c, N) (QS (FX1 c N) (kf_rd_writtenSlot m)) := by
  refine Pc_of (fun D bb => ?_) D
  unfold kf_rd_writtenSlot
  show PP bb w D pm_124 (0, [(0, .ref 178)], [], (khp (mO m [] []) c, N), 0, 0) _
  refine P_ld 1 (.ref 178) rfl (fun _ => rfl) ?_
  refine PK_gf 4 (.ref 6) rfl rfl kd_178 rfl rfl rfl ?_
  refine PK_gf 7 (.int (i32 (m.1 206))) rfl rfl kd_6 rfl rfl rfl ?_
  refine P_ld 10 (.int (i32 256)) rfl (fun _ => rfl) ?_
  refine P_icF 20 13 rfl rfl rfl (KCn_i hm 206 rfl) (l32 256 rfl) rfl (fun h12 => ?_) (fun h12 => ?_)
  · skip
    exact dg_rd_writtenSlot_20 w c N D bb m hm (jk [])
  · skip
    refine P_ld 14 (.ref 178) rfl (fun _ => rfl) ?_
    refine PK_gf 17 (.ref 6) rfl rfl kd_178 rfl rfl rfl ?_
    refine P_cx0 20 76 [.ref 6] [] rfl (fun _ => rfl) rfl rfl (D_tx_refuse w m c N D hm) (fun y x hm e => ⟨_, rfl, hm, Or.inr ⟨x, e, rfl⟩⟩) (fun y13 n15 => ?_)
    exact dg_rd_writtenSlot_20 w c N D bb y13.2.2 n15 (jk [])
def kfl_pr_widthOfField_26 (u0 : Int) (m : mR) : Option Int :=
  some u0
theorem dg_pr_widthOfField_26 (w : wX) (c : Nat → Option am_C) (N D : Nat) (bb : Nat) (u0 : Int) (r0 : R32 u0) (m : mR) (hm : KCn m) (j : Nat → Int) : PP bb w D pm_101 (26, [(0, .ref 12), (1, .int (i32 (j 1))), (2, .int (i32 (j 2)))], [.int (i32 u0)], (khp m c, N), 0, 0) (QS (FP1 (khp m c, N)) (kfl_pr_widthOfField_26 u0 m)) := by
  unfold kfl_pr_widthOfField_26
  show PP bb w D pm_101 (26, [(0, .ref 12), (1, .int (i32 (j 1))), (2, .int (i32 (j 2)))], [.int (i32 u0)], (khp (mO m [] []) c, N), 0, 0) _
  exact P_rp1 rfl r0
def kf_pr_widthOfField (v1 : Int) (v2 : Int) (m : mR) : Option Int :=
  if (16 : Int) ≤ v2 then
    kfl_pr_widthOfField_26 0 m
  else
    kfl_pr_widthOfField_26 ((m.2 10) (cut ((cut (((m.2 13) v1) * 16)) + v2))) m
theorem D_pr_widthOfField (w : wX) (m : mR) (c : Nat → Option am_C) (N D : Nat) (hm : KCn m) (v1 : Int) (v2 : Int) (q1 : R32 v1) (q2 : R32 v2) : PC w D 101 [.ref 12, .int (i32 v1), .int (i32 v2)] (khp m c, N) (QS (FP1 (khp m c, N)) (kf_pr_widthOfField v1 v2 m)) := by
  refine Pc_of (fun D bb => ?_) D
  unfold kf_pr_widthOfField
  show PP bb w D pm_101 (0, [(0, .ref 12), (1, .int (i32 v1)), (2, .int (i32 v2))], [], (khp (mO m [] []) c, N), 0, 0) _
  refine P_ld 1 (.int (i32 v2)) rfl (fun _ => rfl) ?_
  refine P_ld 3 (.int (i32 16)) rfl (fun _ => rfl) ?_
  refine P_icF 25 6 rfl rfl rfl q2 (l32 16 rfl) rfl (fun h1 => ?_) (fun h1 => ?_)
  · skip
    refine P_ld 26 (.int (i32 0)) rfl (fun _ => rfl) ?_
    exact dg_pr_widthOfField_26 w c N D bb 0 (l32 0 rfl) m hm (jk [(1, v1), (2, v2)])
  · skip
    refine P_ld 7 (.ref 12) rfl (fun _ => rfl) ?_
    refine PK_gf 10 (.ref 13) rfl rfl kd_12 rfl rfl rfl ?_
    refine P_ld 11 (.ref 12) rfl (fun _ => rfl) ?_
    refine PK_gf 14 (.ref 16) rfl rfl kd_12 rfl rfl rfl ?_
    refine P_ld 15 (.int (i32 v1)) rfl (fun _ => rfl) ?_
    refine PK_iald2 16 13 (m.2 13) rfl rfl rfl q1 rfl ?_
    refine P_ld 18 (.int (i32 16)) rfl (fun _ => rfl) ?_
    refine P_op 19 (cut (((m.2 13) v1) * 16)) _ rfl (fun _ => rfl) o_mul ?_
    refine P_ld 20 (.int (i32 v2)) rfl (fun _ => rfl) ?_
    refine P_op 21 (cut ((cut (((m.2 13) v1) * 16)) + v2)) _ rfl (fun _ => rfl) o_add ?_
    refine PK_iald2 22 10 (m.2 10) rfl rfl rfl cut_r rfl ?_
    refine P_goto 26 rfl (fun _ => rfl) ?_
    exact dg_pr_widthOfField_26 w c N D bb ((m.2 10) (cut ((cut (((m.2 13) v1) * 16)) + v2))) (kE_i (KCn_a hm 10) rfl _) m hm (jk [(1, v1), (2, v2)])
def kfl_pr_slotWidth_42 (u0 : Int) (m : mR) : Option Int :=
  some u0
theorem dg_pr_slotWidth_42 (w : wX) (c : Nat → Option am_C) (N D : Nat) (bb : Nat) (u0 : Int) (r0 : R32 u0) (m : mR) (hm : KCn m) (j : Nat → Int) : PP bb w D pm_100 (42, [(0, .ref 12), (1, .int (i32 (j 1))), (2, .int (i32 (j 2)))], [.int (i32 u0)], (khp m c, N), 0, 0) (QS (FP1 (khp m c, N)) (kfl_pr_slotWidth_42 u0 m)) := by
  unfold kfl_pr_slotWidth_42
  show PP bb w D pm_100 (42, [(0, .ref 12), (1, .int (i32 (j 1))), (2, .int (i32 (j 2)))], [.int (i32 u0)], (khp (mO m [] []) c, N), 0, 0) _
  exact P_rp1 rfl r0
def kf_pr_slotWidth (v1 : Int) (m : mR) : Option Int :=
  if v1 < 204 then
    if (0 : Int) ≤ cut ((v1.tmod 17) - 1) then
      bnd (kf_pr_widthOfField (v1.tdiv 17) (cut ((v1.tmod 17) - 1)) m) fun y3 =>
      kfl_pr_slotWidth_42 y3 m
    else
      kfl_pr_slotWidth_42 1 m
  else
    some ((m.2 14) (cut (v1 - 204)))
theorem D_pr_slotWidth (w : wX) (m : mR) (c : Nat → Option am_C) (N D : Nat) (hm : KCn m) (v1 : Int) (q1 : R32 v1) : PC w D 100 [.ref 12, .int (i32 v1)] (khp m c, N) (QS (FP1 (khp m c, N)) (kf_pr_slotWidth v1 m)) := by
  refine Pc_of (fun D bb => ?_) D
  unfold kf_pr_slotWidth
  show PP bb w D pm_100 (0, [(0, .ref 12), (1, .int (i32 v1))], [], (khp (mO m [] []) c, N), 0, 0) _
  refine P_ld 1 (.int (i32 v1)) rfl (fun _ => rfl) ?_
  refine P_ld 4 (.int (i32 204)) rfl (fun _ => rfl) ?_
  refine P_icF 18 7 rfl rfl rfl q1 (l32 204 rfl) rfl (fun h1 => ?_) (fun h1 => ?_)
  · skip
    refine P_ld 19 (.int (i32 v1)) rfl (fun _ => rfl) ?_
    refine P_ld 21 (.int (i32 17)) rfl (fun _ => rfl) ?_
    refine P_rem 22 rfl rfl q1 (by decide) (by decide) ?_
    refine P_ld 23 (.int (i32 1)) rfl (fun _ => rfl) ?_
    refine P_op 24 (cut ((v1.tmod 17) - 1)) _ rfl (fun _ => rfl) o_sub ?_
    refine P_sto 25 [(2, .int (i32 (cut ((v1.tmod 17) - 1)))), (0, .ref 12), (1, .int (i32 v1))] rfl (fun _ => rfl) ?_
    refine P_ld 26 (.int (i32 (cut ((v1.tmod 17) - 1)))) rfl (fun _ => rfl) ?_
    refine P_ifF 33 29 rfl rfl rfl cut_r rfl (fun h2 => ?_) (fun h2 => ?_)
    · skip
      refine P_ld 34 (.ref 12) rfl (fun _ => rfl) ?_
      refine P_ld 35 (.int (i32 v1)) rfl (fun _ => rfl) ?_
      refine P_ld 37 (.int (i32 17)) rfl (fun _ => rfl) ?_
      refine P_div 38 rfl rfl q1 (by decide) (by decide) ?_
      refine P_ld 39 (.int (i32 (cut ((v1.tmod 17) - 1)))) rfl (fun _ => rfl) ?_
      refine P_cp1 42 101 [.ref 12, .int (i32 (v1.tdiv 17)), .int (i32 (cut ((v1.tmod 17) - 1)))] [] rfl (fun _ => rfl) rfl (D_pr_widthOfField w m c N D hm (v1.tdiv 17) (cut ((v1.tmod 17) - 1)) (tdiv_r q1 (by decide)) cut_r) (fun y3 h4 => ?_)
      refine P_lv (b := [(0, .ref 12), (1, .int (i32 v1)), (2, .int (i32 (cut ((v1.tmod 17) - 1))))]) rfl rfl ⟨rfl, rfl, rfl, trivial⟩ ?_
      exact dg_pr_slotWidth_42 w c N D bb y3 h4 m hm (jk [(1, v1), (2, cut ((v1.tmod 17) - 1))])
    · skip
      refine P_ld 30 (.int (i32 1)) rfl (fun _ => rfl) ?_
      refine P_goto 42 rfl (fun _ => rfl) ?_
      refine P_lv (b := [(0, .ref 12), (1, .int (i32 v1)), (2, .int (i32 (cut ((v1.tmod 17) - 1))))]) rfl rfl ⟨rfl, rfl, rfl, trivial⟩ ?_
      exact dg_pr_slotWidth_42 w c N D bb 1 (l32 1 rfl) m hm (jk [(1, v1), (2, cut ((v1.tmod 17) - 1))])
  · skip
    refine P_ld 8 (.ref 12) rfl (fun _ => rfl) ?_
    refine PK_gf 11 (.ref 17) rfl rfl kd_12 rfl rfl rfl ?_
    refine P_ld 12 (.int (i32 v1)) rfl (fun _ => rfl) ?_
    refine P_ld 15 (.int (i32 204)) rfl (fun _ => rfl) ?_
    refine P_op 16 (cut (v1 - 204)) _ rfl (fun _ => rfl) o_sub ?_
    refine PK_iald2 17 14 (m.2 14) rfl rfl rfl cut_r rfl ?_
    exact P_rp1 rfl (kE_i (KCn_a hm 14) rfl _)
def kf_rd_arrayOf (v1 : Int) (m : mR) : Option (Int × Int × mR) :=
  bnd (kf_tx_known 303 m) fun y1 =>
  if y1.1 = 0 then
    if (y1.2.2.2 46) v1 = (-1) then
      some (0, 0, (mO y1.2.2 [] [(47, upI (y1.2.2.2 47) v1 y1.2.1)]))
    else
      bnd (kf_pr_slotWidth ((y1.2.2.2 46) v1) (mO y1.2.2 [] [(47, upI (y1.2.2.2 47) v1 y1.2.1)])) fun y5 =>
      if y5 = (y1.2.2.2 15) y1.2.1 then
        some (0, 0, (mO y1.2.2 [] [(47, upI (y1.2.2.2 47) v1 y1.2.1)]))
      else
        bnd (kf_tx_fail 7 (m.1 207) (mO y1.2.2 [] [(47, upI (y1.2.2.2 47) v1 y1.2.1)])) fun y9 =>
        if y9.1 = 0 then
          some (0, 0, y9.2.2)
        else
          some (y9.1, 0, y9.2.2)
  else
    some (y1.1, 0, y1.2.2)
theorem D_rd_arrayOf (w : wX) (m : mR) (c : Nat → Option am_C) (N D : Nat) (hm : KCn m) (v1 : Int) (q1 : R32 v1) : PC w D 125 [.ref 178, .int (i32 v1)] (khp m c, N) (QS (FX0 c N) (kf_rd_arrayOf v1 m)) := by
  refine Pc_of (fun D bb => ?_) D
  unfold kf_rd_arrayOf
  show PP bb w D pm_125 (0, [(0, .ref 178), (1, .int (i32 v1))], [], (khp (mO m [] []) c, N), 0, 0) _
  refine P_ld 1 (.ref 178) rfl (fun _ => rfl) ?_
  refine PK_gf 4 (.ref 6) rfl rfl kd_178 rfl rfl rfl ?_
  refine PK_gf 7 (.int (i32 (m.1 207))) rfl rfl kd_6 rfl rfl rfl ?_
  refine P_sto 8 [(2, .int (i32 (m.1 207))), (0, .ref 178), (1, .int (i32 v1))] rfl (fun _ => rfl) ?_
  refine P_ld 9 (.ref 178) rfl (fun _ => rfl) ?_
  refine PK_gf 12 (.ref 6) rfl rfl kd_178 rfl rfl rfl ?_
  refine P_ld 15 (.int (i32 303)) rfl (fun _ => rfl) ?_
  refine P_cx1 18 83 [.ref 6, .int (i32 303)] [] rfl (fun _ => rfl) rfl rfl (D_tx_known w m c N D hm 303 (l32 303 rfl)) (fun y x hm e => ⟨_, rfl, hm, Or.inr ⟨x, e, rfl⟩⟩) (fun y1 h2 n3 => ?_)
  refine P_sto 19 [(3, .int (i32 y1.2.1)), (2, .int (i32 (m.1 207))), (0, .ref 178), (1, .int (i32 v1))] rfl (fun _ => rfl) ?_
  refine P_ld 20 (.ref 178) rfl (fun _ => rfl) ?_
  refine PK_gf 23 (.ref 45) rfl rfl kd_178 rfl rfl rfl ?_
  refine PK_gf 26 (.ref 54) rfl rfl kd_45 rfl rfl rfl ?_
  refine P_ld 27 (.int (i32 v1)) rfl (fun _ => rfl) ?_
  refine P_ld 28 (.int (i32 y1.2.1)) rfl (fun _ => rfl) ?_
  refine PK_iast2 (a' := [(47, upI (y1.2.2.2 47) v1 y1.2.1)]) 29 47 (y1.2.2.2 47) rfl rfl rfl q1 rfl rfl ?_
  refine P_ld 30 (.ref 178) rfl (fun _ => rfl) ?_
  refine PK_gf 33 (.ref 45) rfl rfl kd_178 rfl rfl rfl ?_
  refine PK_gf 36 (.ref 53) rfl rfl kd_45 rfl rfl rfl ?_
  refine P_ld 37 (.int (i32 v1)) rfl (fun _ => rfl) ?_
  refine PK_iald2 38 46 (y1.2.2.2 46) rfl rfl rfl q1 rfl ?_
  refine P_sto 40 [(4, .int (i32 ((y1.2.2.2 46) v1))), (3, .int (i32 y1.2.1)), (2, .int (i32 (m.1 207))), (0, .ref 178), (1, .int (i32 v1))] rfl (fun _ => rfl) ?_
  refine P_ld 42 (.int (i32 ((y1.2.2.2 46) v1))) rfl (fun _ => rfl) ?_
  refine P_ld 43 (.int (i32 (-1))) rfl (fun _ => rfl) ?_
  refine P_icF 77 46 rfl rfl rfl (kE_i (KCn_a n3 46) rfl _) (l32 (-1) rfl) rfl (fun h4 => ?_) (fun h4 => ?_)
  · skip
    exact P_rx0 rfl rfl (KCn_mO n3 rfl rfl trivial ⟨(kE_ui (KCn_a n3 47) rfl h2), trivial⟩)
  · skip
    refine P_ld 47 (.ref 178) rfl (fun _ => rfl) ?_
    refine PK_gf 50 (.ref 12) rfl rfl kd_178 rfl rfl rfl ?_
    refine P_ld 52 (.int (i32 ((y1.2.2.2 46) v1))) rfl (fun _ => rfl) ?_
    refine P_cp1 55 100 [.ref 12, .int (i32 ((y1.2.2.2 46) v1))] [] rfl (fun _ => rfl) rfl (D_pr_slotWidth w (mO y1.2.2 [] [(47, upI (y1.2.2.2 47) v1 y1.2.1)]) c N D (KCn_mO n3 rfl rfl trivial ⟨(kE_ui (KCn_a n3 47) rfl h2), trivial⟩) ((y1.2.2.2 46) v1) (kE_i (KCn_a n3 46) rfl _)) (fun y5 h6 => ?_)
    refine P_ld 56 (.ref 178) rfl (fun _ => rfl) ?_
    refine PK_gf 59 (.ref 12) rfl rfl kd_178 rfl rfl rfl ?_
    refine PK_gf 62 (.ref 18) rfl rfl kd_12 rfl rfl rfl ?_
    refine P_ld 63 (.int (i32 y1.2.1)) rfl (fun _ => rfl) ?_
    refine PK_iald2 64 15 (y1.2.2.2 15) rfl rfl rfl h2 rfl ?_
    refine P_icF 77 67 rfl rfl rfl h6 (kE_i (KCn_a n3 15) rfl _) rfl (fun h8 => ?_) (fun h8 => ?_)
    · skip
      exact P_rx0 rfl rfl (KCn_mO n3 rfl rfl trivial ⟨(kE_ui (KCn_a n3 47) rfl h2), trivial⟩)
    · skip
      refine P_ld 68 (.ref 178) rfl (fun _ => rfl) ?_
      refine PK_gf 71 (.ref 6) rfl rfl kd_178 rfl rfl rfl ?_
      refine P_ld 73 (.int (i32 7)) rfl (fun _ => rfl) ?_
      refine P_ld 74 (.int (i32 (m.1 207))) rfl (fun _ => rfl) ?_
      refine P_cx0 77 51 [.ref 6, .int (i32 7), .int (i32 (m.1 207))] [] rfl (fun _ => rfl) rfl rfl (D_tx_fail w (mO y1.2.2 [] [(47, upI (y1.2.2.2 47) v1 y1.2.1)]) c N D (KCn_mO n3 rfl rfl trivial ⟨(kE_ui (KCn_a n3 47) rfl h2), trivial⟩) 7 (m.1 207) (l32 7 rfl) (KCn_i hm 207 rfl)) (fun y x hm e => ⟨_, rfl, hm, Or.inr ⟨x, e, rfl⟩⟩) (fun y9 n11 => ?_)
      exact P_rx0 rfl rfl n11
def kfl_fm_add_105 (v6 : Int) (u1 : Int) (m : mR) : Option (Int × mR) :=
  some (v6, (mO m [(213, u1), (229, cut ((m.1 229) + 1))] [(70, upI (m.2 70) (m.1 229) v6)]))
theorem dg_fm_add_105 (w : wX) (c : Nat → Option am_C) (N D : Nat) (bb : Nat) (v6 : Int) (u1 : Int) (q6 : R32 v6) (r1 : R32 u1) (m : mR) (hm : KCn m) (j : Nat → Int) : PP bb w D pm_97 (105, [(0, .ref 181), (1, .int (i32 (j 1))), (2, .int (i32 (j 2))), (3, .int (i32 (j 3))), (4, .int (i32 (j 4))), (5, .int (i32 (j 5))), (6, .int (i32 v6))], [.int (i32 u1), .ref 6], (khp m c, N), 0, 0) (QS (FK1 c N) (kfl_fm_add_105 v6 u1 m)) := by
  unfold kfl_fm_add_105
  show PP bb w D pm_97 (105, [(0, .ref 181), (1, .int (i32 (j 1))), (2, .int (i32 (j 2))), (3, .int (i32 (j 3))), (4, .int (i32 (j 4))), (5, .int (i32 (j 5))), (6, .int (i32 v6))], [.int (i32 u1), .ref 6], (khp (mO m [] []) c, N), 0, 0) _
  refine PK_pz (l' := [(213, u1)]) 108 u1 rfl rfl kd_6 rfl rfl rfl rfl r1 rfl rfl rfl ?_
  refine P_ld 109 (.ref 181) rfl (fun _ => rfl) ?_
  refine PK_gf 112 (.ref 184) rfl rfl kd_181 rfl rfl rfl ?_
  refine P_ld 113 (.ref 181) rfl (fun _ => rfl) ?_
  refine PK_gf 116 (.int (i32 (m.1 229))) rfl rfl kd_181 rfl rfl rfl ?_
  refine P_ld 118 (.int (i32 v6)) rfl (fun _ => rfl) ?_
  refine PK_iast2 (a' := [(70, upI (m.2 70) (m.1 229) v6)]) 119 70 (m.2 70) rfl rfl rfl (KCn_i hm 229 rfl) rfl rfl ?_
  refine P_ld 120 (.ref 181) rfl (fun _ => rfl) ?_
  refine P_ld 121 (.ref 181) rfl (fun _ => rfl) ?_
  refine PK_gf 124 (.int (i32 (m.1 229))) rfl rfl kd_181 rfl rfl rfl ?_
  refine P_ld 125 (.int (i32 1)) rfl (fun _ => rfl) ?_
  refine P_op 126 (cut ((m.1 229) + 1)) _ rfl (fun _ => rfl) o_add ?_
  refine PK_pf (l' := [(213, u1), (229, cut ((m.1 229) + 1))]) 129 (cut ((m.1 229) + 1)) rfl rfl kd_181 rfl rfl rfl rfl rfl rfl rfl ?_
  refine P_ld 131 (.int (i32 v6)) rfl (fun _ => rfl) ?_
  exact P_rk1 rfl q6 (KCn_mO hm rfl rfl ⟨(kV_i rfl r1), (kV_i rfl cut_r), trivial⟩ ⟨(kE_ui (KCn_a hm 70) rfl q6), trivial⟩)
def kf_fm_add (v1 : Int) (v2 : Int) (v3 : Int) (v4 : Int) (v5 : Int) (m : mR) : Option (Int × mR) :=
  bnd (kf_Math_min (m.1 220) 1089 m) fun y1 =>
  if cut (y1 + 1) ≤ 800 then
    kfl_fm_add_105 y1 0 (mO m [(220, cut (y1 + 1))] [(18, upI (m.2 18) y1 v1), (19, upI (m.2 19) y1 v2), (20, upI (m.2 20) y1 v3), (22, upI (m.2 22) y1 v4), (23, upI (m.2 23) y1 v5)])
  else
    kfl_fm_add_105 y1 1 (mO m [(220, cut (y1 + 1))] [(18, upI (m.2 18) y1 v1), (19, upI (m.2 19) y1 v2), (20, upI (m.2 20) y1 v3), (22, upI (m.2 22) y1 v4), (23, upI (m.2 23) y1 v5)])
theorem D_fm_add (w : wX) (m : mR) (c : Nat → Option am_C) (N D : Nat) (hm : KCn m) (v1 : Int) (v2 : Int) (v3 : Int) (v4 : Int) (v5 : Int) (q1 : R32 v1) (q2 : R32 v2) (q3 : R32 v3) (q4 : R32 v4) (q5 : R32 v5) : PC w D 97 [.ref 181, .int (i32 v1), .int (i32 v2), .int (i32 v3), .int (i32 v4), .int (i32 v5)] (khp m c, N) (QS (FK1 c N) (kf_fm_add v1 v2 v3 v4 v5 m)) := by
  refine Pc_of (fun D bb => ?_) D
  unfold kf_fm_add
  show PP bb w D pm_97 (0, [(0, .ref 181), (1, .int (i32 v1)), (2, .int (i32 v2)), (3, .int (i32 v3)), (4, .int (i32 v4)), (5, .int (i32 v5))], [], (khp (mO m [] []) c, N), 0, 0) _
  refine P_ld 1 (.ref 181) rfl (fun _ => rfl) ?_
  refine PK_gf 4 (.ref 22) rfl rfl kd_181 rfl rfl rfl ?_
  refine PK_gf 7 (.int (i32 (m.1 220))) rfl rfl kd_22 rfl rfl rfl ?_
  refine P_ld 10 (.int (i32 1089)) rfl (fun _ => rfl) ?_
  refine P_cp1 13 62 [.int (i32 (m.1 220)), .int (i32 1089)] [] rfl (fun _ => rfl) rfl (D_Math_min w m c N D hm (m.1 220) 1089 (KCn_i hm 220 rfl) (l32 1089 rfl)) (fun y1 h2 => ?_)
  refine P_sto 15 [(6, .int (i32 y1)), (0, .ref 181), (1, .int (i32 v1)), (2, .int (i32 v2)), (3, .int (i32 v3)), (4, .int (i32 v4)), (5, .int (i32 v5))] rfl (fun _ => rfl) ?_
  refine P_ld 16 (.ref 181) rfl (fun _ => rfl) ?_
  refine PK_gf 19 (.ref 22) rfl rfl kd_181 rfl rfl rfl ?_
  refine PK_gf 22 (.ref 23) rfl rfl kd_22 rfl rfl rfl ?_
  refine P_ld 24 (.int (i32 y1)) rfl (fun _ => rfl) ?_
  refine P_ld 25 (.int (i32 v1)) rfl (fun _ => rfl) ?_
  refine PK_iast2 (a' := [(18, upI (m.2 18) y1 v1)]) 26 18 (m.2 18) rfl rfl rfl h2 rfl rfl ?_
  refine P_ld 27 (.ref 181) rfl (fun _ => rfl) ?_
  refine PK_gf 30 (.ref 22) rfl rfl kd_181 rfl rfl rfl ?_
  refine PK_gf 33 (.ref 24) rfl rfl kd_22 rfl rfl rfl ?_
  refine P_ld 35 (.int (i32 y1)) rfl (fun _ => rfl) ?_
  refine P_ld 36 (.int (i32 v2)) rfl (fun _ => rfl) ?_
  refine PK_iast2 (a' := [(18, upI (m.2 18) y1 v1), (19, upI (m.2 19) y1 v2)]) 37 19 (m.2 19) rfl rfl rfl h2 rfl rfl ?_
  refine P_ld 38 (.ref 181) rfl (fun _ => rfl) ?_
  refine PK_gf 41 (.ref 22) rfl rfl kd_181 rfl rfl rfl ?_
  refine PK_gf 44 (.ref 25) rfl rfl kd_22 rfl rfl rfl ?_
  refine P_ld 46 (.int (i32 y1)) rfl (fun _ => rfl) ?_
  refine P_ld 47 (.int (i32 v3)) rfl (fun _ => rfl) ?_
  refine PK_iast2 (a' := [(18, upI (m.2 18) y1 v1), (19, upI (m.2 19) y1 v2), (20, upI (m.2 20) y1 v3)]) 48 20 (m.2 20) rfl rfl rfl h2 rfl rfl ?_
  refine P_ld 49 (.ref 181) rfl (fun _ => rfl) ?_
  refine PK_gf 52 (.ref 22) rfl rfl kd_181 rfl rfl rfl ?_
  refine PK_gf 55 (.ref 27) rfl rfl kd_22 rfl rfl rfl ?_
  refine P_ld 57 (.int (i32 y1)) rfl (fun _ => rfl) ?_
  refine P_ld 59 (.int (i32 v4)) rfl (fun _ => rfl) ?_
  refine PK_iast2 (a' := [(18, upI (m.2 18) y1 v1), (19, upI (m.2 19) y1 v2), (20, upI (m.2 20) y1 v3), (22, upI (m.2 22) y1 v4)]) 60 22 (m.2 22) rfl rfl rfl h2 rfl rfl ?_
  refine P_ld 61 (.ref 181) rfl (fun _ => rfl) ?_
  refine PK_gf 64 (.ref 22) rfl rfl kd_181 rfl rfl rfl ?_
  refine PK_gf 67 (.ref 28) rfl rfl kd_22 rfl rfl rfl ?_
  refine P_ld 69 (.int (i32 y1)) rfl (fun _ => rfl) ?_
  refine P_ld 71 (.int (i32 v5)) rfl (fun _ => rfl) ?_
  refine PK_iast2 (a' := [(18, upI (m.2 18) y1 v1), (19, upI (m.2 19) y1 v2), (20, upI (m.2 20) y1 v3), (22, upI (m.2 22) y1 v4), (23, upI (m.2 23) y1 v5)]) 72 23 (m.2 23) rfl rfl rfl h2 rfl rfl ?_
  refine P_ld 73 (.ref 181) rfl (fun _ => rfl) ?_
  refine PK_gf 76 (.ref 22) rfl rfl kd_181 rfl rfl rfl ?_
  refine P_ld 78 (.int (i32 y1)) rfl (fun _ => rfl) ?_
  refine P_ld 79 (.int (i32 1)) rfl (fun _ => rfl) ?_
  refine P_op 80 (cut (y1 + 1)) _ rfl (fun _ => rfl) o_add ?_
  refine PK_pf (l' := [(220, cut (y1 + 1))]) 83 (cut (y1 + 1)) rfl rfl kd_22 rfl rfl rfl rfl rfl rfl rfl ?_
  refine P_ld 84 (.ref 181) rfl (fun _ => rfl) ?_
  refine PK_gf 87 (.ref 6) rfl rfl kd_181 rfl rfl rfl ?_
  refine P_ld 88 (.ref 181) rfl (fun _ => rfl) ?_
  refine PK_gf 91 (.ref 22) rfl rfl kd_181 rfl rfl rfl ?_
  refine PK_gf 94 (.int (i32 (cut (y1 + 1)))) rfl rfl kd_22 rfl rfl rfl ?_
  refine P_ld 97 (.int (i32 800)) rfl (fun _ => rfl) ?_
  refine P_icF 104 100 rfl rfl rfl cut_r (l32 800 rfl) rfl (fun h4 => ?_) (fun h4 => ?_)
  · skip
    refine P_ld 105 (.int (i32 0)) rfl (fun _ => rfl) ?_
    refine P_lv (b := [(0, .ref 181), (1, .int (i32 v1)), (2, .int (i32 v2)), (3, .int (i32 v3)), (4, .int (i32 v4)), (5, .int (i32 v5)), (6, .int (i32 y1))]) rfl rfl ⟨rfl, rfl, rfl, rfl, rfl, rfl, rfl, trivial⟩ ?_
    exact dg_fm_add_105 w c N D bb y1 0 h2 (l32 0 rfl) (mO m [(220, cut (y1 + 1))] [(18, upI (m.2 18) y1 v1), (19, upI (m.2 19) y1 v2), (20, upI (m.2 20) y1 v3), (22, upI (m.2 22) y1 v4), (23, upI (m.2 23) y1 v5)]) (KCn_mO hm rfl rfl ⟨(kV_i rfl cut_r), trivial⟩ ⟨(kE_ui (KCn_a hm 18) rfl q1), (kE_ui (KCn_a hm 19) rfl q2), (kE_ui (KCn_a hm 20) rfl q3), (kE_ui (KCn_a hm 22) rfl q4), (kE_ui (KCn_a hm 23) rfl q5), trivial⟩) (jk [(1, v1), (2, v2), (3, v3), (4, v4), (5, v5)])
  · skip
    refine P_ld 101 (.int (i32 1)) rfl (fun _ => rfl) ?_
    refine P_goto 105 rfl (fun _ => rfl) ?_
    refine P_lv (b := [(0, .ref 181), (1, .int (i32 v1)), (2, .int (i32 v2)), (3, .int (i32 v3)), (4, .int (i32 v4)), (5, .int (i32 v5)), (6, .int (i32 y1))]) rfl rfl ⟨rfl, rfl, rfl, rfl, rfl, rfl, rfl, trivial⟩ ?_
    exact dg_fm_add_105 w c N D bb y1 1 h2 (l32 1 rfl) (mO m [(220, cut (y1 + 1))] [(18, upI (m.2 18) y1 v1), (19, upI (m.2 19) y1 v2), (20, upI (m.2 20) y1 v3), (22, upI (m.2 22) y1 v4), (23, upI (m.2 23) y1 v5)]) (KCn_mO hm rfl rfl ⟨(kV_i rfl cut_r), trivial⟩ ⟨(kE_ui (KCn_a hm 18) rfl q1), (kE_ui (KCn_a hm 19) rfl q2), (kE_ui (KCn_a hm 20) rfl q3), (kE_ui (KCn_a hm 22) rfl q4), (kE_ui (KCn_a hm 23) rfl q5), trivial⟩) (jk [(1, v1), (2, v2), (3, v3), (4, v4), (5, v5)])
def kfl_tx_within_43 (m : mR) : Option (Int × Int × mR) :=
  bnd (kf_tx_advance m) fun y1 =>
  if y1.1 = 0 then
    some (0, cut (m.1 208), y1.2.2)
  else
    some (y1.1, 0, y1.2.2)
theorem dg_tx_within_43 (w : wX) (c : Nat → Option am_C) (N D : Nat) (bb : Nat) (m : mR) (hm : KCn m) (j : Nat → Int) : PP bb w D pm_81 (43, [(0, .ref 6), (1, .int (i32 (j 1))), (2, .int (i32 (j 2)))], [], (khp m c, N), 0, 0) (QS (FX1 c N) (kfl_tx_within_43 m)) := by
  unfold kfl_tx_within_43
  show PP bb w D pm_81 (43, [(0, .ref 6), (1, .int (i32 (j 1))), (2, .int (i32 (j 2)))], [], (khp (mO m [] []) c, N), 0, 0) _
  refine P_ld 44 (.ref 6) rfl (fun _ => rfl) ?_
  refine PK_gf 47 (.long (i64 (m.1 208))) rfl rfl kd_6 rfl rfl rfl ?_
  refine P_op 48 (cut (m.1 208)) _ rfl (fun _ => rfl) o_l2i ?_
  refine P_sto 49 [(3, .int (i32 (cut (m.1 208)))), (0, .ref 6), (1, .int (i32 (j 1))), (2, .int (i32 (j 2)))] rfl (fun _ => rfl) ?_
  refine P_ld 50 (.ref 6) rfl (fun _ => rfl) ?_
  refine P_cx0 53 50 [.ref 6] [] rfl (fun _ => rfl) rfl rfl (D_tx_advance w m c N D hm) (fun y x hm e => ⟨_, rfl, hm, Or.inr ⟨x, e, rfl⟩⟩) (fun y1 n3 => ?_)
  refine P_ld 54 (.int (i32 (cut (m.1 208)))) rfl (fun _ => rfl) ?_
  exact P_rx1 rfl cut_r n3
def kfl_tx_within_34 (m : mR) : Option (Int × Int × mR) :=
  bnd (kf_tx_fail 5 (m.1 207) m) fun y4 =>
  if y4.1 = 0 then
    kfl_tx_within_43 y4.2.2
  else
    some (y4.1, 0, y4.2.2)
theorem dg_tx_within_34 (w : wX) (c : Nat → Option am_C) (N D : Nat) (bb : Nat) (m : mR) (hm : KCn m) (j : Nat → Int) : PP bb w D pm_81 (34, [(0, .ref 6), (1, .int (i32 (j 1))), (2, .int (i32 (j 2)))], [], (khp m c, N), 0, 0) (QS (FX1 c N) (kfl_tx_within_34 m)) := by
  unfold kfl_tx_within_34
  show PP bb w D pm_81 (34, [(0, .ref 6), (1, .int (i32 (j 1))), (2, .int (i32 (j 2)))], [], (khp (mO m [] []) c, N), 0, 0) _
  refine P_ld 35 (.ref 6) rfl (fun _ => rfl) ?_
  refine P_ld 36 (.int (i32 5)) rfl (fun _ => rfl) ?_
  refine P_ld 37 (.ref 6) rfl (fun _ => rfl) ?_
  refine PK_gf 40 (.int (i32 (m.1 207))) rfl rfl kd_6 rfl rfl rfl ?_
  refine P_cx0 43 51 [.ref 6, .int (i32 5), .int (i32 (m.1 207))] [] rfl (fun _ => rfl) rfl rfl (D_tx_fail w m c N D hm 5 (m.1 207) (l32 5 rfl) (KCn_i hm 207 rfl)) (fun y x hm e => ⟨_, rfl, hm, Or.inr ⟨x, e, rfl⟩⟩) (fun y4 n6 => ?_)
  exact dg_tx_within_43 w c N D bb y4.2.2 n6 (jk [(1, j 1), (2, j 2)])
def kfl_tx_within_14 (v1 : Int) (v2 : Int) (m : mR) : Option (Int × Int × mR) :=
  if cmp64 (m.1 208) v1 < 0 then
    kfl_tx_within_34 m
  else
    if cmp64 (m.1 208) v2 ≤ 0 then
      kfl_tx_within_43 m
    else
      kfl_tx_within_34 m
theorem dg_tx_within_14 (w : wX) (c : Nat → Option am_C) (N D : Nat) (bb : Nat) (v1 : Int) (v2 : Int) (q1 : R32 v1) (q2 : R32 v2) (m : mR) (hm : KCn m) (j : Nat → Int) : PP bb w D pm_81 (14, [(0, .ref 6), (1, .int (i32 v1)), (2, .int (i32 v2))], [], (khp m c, N), 0, 0) (QS (FX1 c N) (kfl_tx_within_14 v1 v2 m)) := by
  unfold kfl_tx_within_14
  show PP bb w D pm_81 (14, [(0, .ref 6), (1, .int (i32 v1)), (2, .int (i32 v2))], [], (khp (mO m [] []) c, N), 0, 0) _
  refine P_ld 15 (.ref 6) rfl (fun _ => rfl) ?_
  refine PK_gf 18 (.long (i64 (m.1 208))) rfl rfl kd_6 rfl rfl rfl ?_
  refine P_ld 19 (.int (i32 v1)) rfl (fun _ => rfl) ?_
  refine P_opl 20 v1 _ rfl (fun _ => rfl) (o_i2l q1) ?_
  refine P_op 21 (cmp64 (m.1 208) v1) _ rfl (fun _ => rfl) (o_cmp (KCn_l hm 208 rfl) (R32_64 q1)) ?_
  refine P_ifF 34 24 rfl rfl rfl cmp64_r rfl (fun h7 => ?_) (fun h7 => ?_)
  · skip
    exact dg_tx_within_34 w c N D bb m hm (jk [(1, v1), (2, v2)])
  · skip
    refine P_ld 25 (.ref 6) rfl (fun _ => rfl) ?_
    refine PK_gf 28 (.long (i64 (m.1 208))) rfl rfl kd_6 rfl rfl rfl ?_
    refine P_ld 29 (.int (i32 v2)) rfl (fun _ => rfl) ?_
    refine P_opl 30 v2 _ rfl (fun _ => rfl) (o_i2l q2) ?_
    refine P_op 31 (cmp64 (m.1 208) v2) _ rfl (fun _ => rfl) (o_cmp (KCn_l hm 208 rfl) (R32_64 q2)) ?_
    refine P_ifF 43 34 rfl rfl rfl cmp64_r rfl (fun h8 => ?_) (fun h8 => ?_)
    · skip
      exact dg_tx_within_43 w c N D bb m hm (jk [(1, v1), (2, v2)])
    · skip
      exact dg_tx_within_34 w c N D bb m hm (jk [(1, v1), (2, v2)])
def kf_tx_within (v1 : Int) (v2 : Int) (m : mR) : Option (Int × Int × mR) :=
  if m.1 206 = 257 then
    kfl_tx_within_14 v1 v2 m
  else
    bnd (kf_tx_refuse m) fun y10 =>
    if y10.1 = 0 then
      kfl_tx_within_14 v1 v2 y10.2.2
    else
      some (y10.1, 0, y10.2.2)
theorem D_tx_within (w : wX) (m : mR) (c : Nat → Option am_C) (N D : Nat) (hm : KCn m) (v1 : Int) (v2 : Int) (q1 : R32 v1) (q2 : R32 v2) : PC w D 81 [.ref 6, .int (i32 v1), .int (i32 v2)] (khp m c, N) (QS (FX1 c N) (kf_tx_within v1 v2 m)) := by
  refine Pc_of (fun D bb => ?_) D
  unfold kf_tx_within
  show PP bb w D pm_81 (0, [(0, .ref 6), (1, .int (i32 v1)), (2, .int (i32 v2))], [], (khp (mO m [] []) c, N), 0, 0) _
  refine P_ld 1 (.ref 6) rfl (fun _ => rfl) ?_
  refine PK_gf 4 (.int (i32 (m.1 206))) rfl rfl kd_6 rfl rfl rfl ?_
  refine P_ld 7 (.int (i32 257)) rfl (fun _ => rfl) ?_
  refine P_icF 14 10 rfl rfl rfl (KCn_i hm 206 rfl) (l32 257 rfl) rfl (fun h9 => ?_) (fun h9 => ?_)
  · skip
    exact dg_tx_within_14 w c N D bb v1 v2 q1 q2 m hm (jk [])
  · skip
    refine P_ld 11 (.ref 6) rfl (fun _ => rfl) ?_
    refine P_cx0 14 76 [.ref 6] [] rfl (fun _ => rfl) rfl rfl (D_tx_refuse w m c N D hm) (fun y x hm e => ⟨_, rfl, hm, Or.inr ⟨x, e, rfl⟩⟩) (fun y10 n12 => ?_)
    exact dg_tx_within_14 w c N D bb v1 v2 q1 q2 y10.2.2 n12 (jk [])
end X28F
