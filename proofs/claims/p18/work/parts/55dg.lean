noncomputable section X55DG
def cs_Arrays_fill0_b102_5 (B : oB) (s : Int × mR) : Prop := R32 s.1 ∧ KCo B s.2
def cx_Arrays_fill0_b102_5 (B : oB) : (mR) → Prop := (fun (e : mR) => KCo B e)
def hd_Arrays_fill0_b102_5 (B : oB) (c : Nat → Option am_C) (N : Nat) (v0 : Int) (v1 : Int) (v3 : Int) (s : Int × mR) (j : Nat → Int) : ag_St af_T := (5, [(0, .ref (obo B v0 + (2 + 1))), (1, .int (i32 v1)), (2, .int (i32 s.1)), (3, .int (i32 v3))], [], (khp s.2 c, N), 0, 0)
def ex_Arrays_fill0_b102_5 (B : oB) (c : Nat → Option am_C) (N : Nat) (v0 : Int) (v1 : Int) (v3 : Int) : (mR) → (Nat → Int) → ag_St af_T := (fun (e : mR) (j : Nat → Int) => ((20, [(0, .ref (obo B (j 0) + (2 + 1))), (1, .int (i32 (j 1))), (2, .int (i32 (j 2))), (3, .int (i32 (j 3)))], [], (khp e c, N), 0, 0) : ag_St af_T))
def kfb_Arrays_fill0_b102_5 (v0 : Int) (v1 : Int) (v3 : Int) (s : Int × mR) : Option (Sum (Int × mR) (mR)) :=
  if v3 ≤ s.1 then
    some (.inr s.2)
  else
    some (.inl (cut (s.1 + 1), (mO s.2 [] [(102, upI (s.2.2 102) (65536 * v0 + s.1) v1)])))
theorem dh_Arrays_fill0_b102_5 (B : oB) (w : wX) (c : Nat → Option am_C) (N D : Nat) (v0 : Int) (v1 : Int) (v3 : Int) (q0 : OKo B v0) (q1 : R32 v1) (q3 : R32 v3) (bb : Nat) (Q2 : Sum (Int × mR) (mR) → ag_Re af_T → Prop) (H1 : ∀ s j, cs_Arrays_fill0_b102_5 B s → PP bb w D pm_25 (hd_Arrays_fill0_b102_5 B c N v0 v1 v3 s j) (Q2 (.inl s))) (H2 : ∀ x j, cx_Arrays_fill0_b102_5 B x → PP bb w D pm_25 (ex_Arrays_fill0_b102_5 B c N v0 v1 v3 x j) (Q2 (.inr x))) (s : Int × mR) (j : Nat → Int) (hs : cs_Arrays_fill0_b102_5 B s) : PP (bb + 1) w D pm_25 (hd_Arrays_fill0_b102_5 B c N v0 v1 v3 s j) (QS Q2 (kfb_Arrays_fill0_b102_5 v0 v1 v3 s)) := by
  obtain ⟨g2, gm⟩ := hs
  unfold kfb_Arrays_fill0_b102_5
  show PP (bb + 1) w D pm_25 (5, [(0, .ref (obo B v0 + (2 + 1))), (1, .int (i32 v1)), (2, .int (i32 s.1)), (3, .int (i32 v3))], [], (khp (mO s.2 [] []) c, N), 0, 0) _
  refine P1_ld 6 (.int (i32 s.1)) rfl (fun _ => rfl) ?_
  refine P_ld 7 (.int (i32 v3)) rfl (fun _ => rfl) ?_
  refine P_icF 20 10 rfl rfl rfl g2 q3 rfl (fun h3 => ?_) (fun h3 => ?_)
  · skip
    refine P_some ?_
    exact H2 s.2 (jk [(0, v0), (1, v1), (2, s.1), (3, v3)]) gm
  · skip
    refine P_ld 11 (.ref (obo B v0 + (2 + 1))) rfl (fun _ => rfl) ?_
    refine P_ld 12 (.int (i32 s.1)) rfl (fun _ => rfl) ?_
    refine P_ld 13 (.int (i32 v1)) rfl (fun _ => rfl) ?_
    refine PK_iasto2 (a' := [(102, upI (s.2.2 102) (65536 * v0 + s.1) v1)]) 14 2 (s.2.2 102) rfl rfl rfl gm rfl rfl q0 g2 rfl rfl ?_
    refine P_inc 17 [(2, .int (i32 (cut (s.1 + 1)))), (0, .ref (obo B v0 + (2 + 1))), (1, .int (i32 v1)), (3, .int (i32 v3))] rfl rfl (by decide) rfl rfl ?_
    refine P_goto 5 rfl (fun _ => rfl) ?_
    refine P_some ?_
    refine P_lv (b := [(0, .ref (obo B v0 + (2 + 1))), (1, .int (i32 v1)), (2, .int (i32 (cut (s.1 + 1)))), (3, .int (i32 v3))]) rfl rfl ⟨rfl, rfl, rfl, rfl, trivial⟩ ?_
    exact H1 (cut (s.1 + 1), (mO s.2 [] [(102, upI (s.2.2 102) (65536 * v0 + s.1) v1)])) (jk []) ⟨cut_r, (KCo_mO gm rfl rfl (KC6 gm rfl) trivial ⟨(kE_ui (KCn_a gm.1 102) rfl q1), trivial⟩)⟩
def kf_Arrays_fill0_b102 (v0 : Int) (v1 : Int) (m : mR) : Option (Int × mR) :=
  bnd (whl (kfb_Arrays_fill0_b102_5 v0 v1 48) (0, m)) (fun e4 : mR =>
    some (0, e4))
theorem D_Arrays_fill0_b102 (B : oB) (w : wX) (m : mR) (c : Nat → Option am_C) (N D : Nat) (hm : KCo B m) (v0 : Int) (v1 : Int) (q0 : OKo B v0) (q1 : R32 v1) : PC w D 25 [.ref (obo B v0 + (2 + 1)), .int (i32 v1)] (khp m c, N) (QS (FO0 B c N) (kf_Arrays_fill0_b102 v0 v1 m)) := by
  refine Pc_of (fun D bb => ?_) D
  unfold kf_Arrays_fill0_b102
  show PP bb w D pm_25 (0, [(0, .ref (obo B v0 + (2 + 1))), (1, .int (i32 v1))], [], (khp (mO m [] []) c, N), 0, 0) _
  refine P_ld 1 (.int (i32 0)) rfl (fun _ => rfl) ?_
  refine P_sto 2 [(2, .int (i32 0)), (0, .ref (obo B v0 + (2 + 1))), (1, .int (i32 v1))] rfl (fun _ => rfl) ?_
  refine P_ld 3 (.ref (obo B v0 + (2 + 1))) rfl (fun _ => rfl) ?_
  refine PK_aleno 4 2 (L := 48) rfl rfl (OKr_o hm rfl rfl q0) (obr_o hm rfl) rfl rfl ?_
  refine P_sto 5 [(3, .int (i32 48)), (2, .int (i32 0)), (0, .ref (obo B v0 + (2 + 1))), (1, .int (i32 v1))] rfl (fun _ => rfl) ?_
  refine P_lv (b := [(0, .ref (obo B v0 + (2 + 1))), (1, .int (i32 v1)), (2, .int (i32 0)), (3, .int (i32 48))]) rfl rfl ⟨rfl, rfl, rfl, rfl, trivial⟩ ?_
  refine P_bnd ?_
  refine P_whl (fun bb Q2 H1 H2 s9 j9 hs9 => dh_Arrays_fill0_b102_5 B w c N D v0 v1 48 q0 q1 (l32 48 rfl) bb Q2 H1 H2 s9 j9 hs9) bb (fun e4 j q5 => ?_) (0, m) (jk []) ⟨(l32 0 rfl), hm⟩
  have q6 := q5
  show PP bb w D pm_25 (20, [(0, .ref (obo B (j 0) + (2 + 1))), (1, .int (i32 (j 1))), (2, .int (i32 (j 2))), (3, .int (i32 (j 3)))], [], (khp (mO e4 [] []) c, N), 0, 0) (QS _ (some (0, e4)))
  exact P_ro0 rfl rfl q6
def cs_ss_goalOf_3 (B : oB) (s : Int) : Prop := R32 s
def cx_ss_goalOf_3 (B : oB) : (Sum (Int) (Unit)) → Prop := (sel (fun (e : Int) => R32 e) (fun (e : Unit) => True))
def hd_ss_goalOf_3 (B : oB) (c : Nat → Option am_C) (N : Nat) (v1 : Int) (v2 : Int) (m : mR) (s : Int) (j : Nat → Int) : ag_St af_T := (3, [(0, .ref 31), (1, .int (i32 v1)), (2, .long (i64 v2)), (4, .int (i32 s)), (5, .int (i32 (j 5)))], [], (khp m c, N), 0, 0)
def ex_ss_goalOf_3 (B : oB) (c : Nat → Option am_C) (N : Nat) (v1 : Int) (v2 : Int) (m : mR) : (Sum (Int) (Unit)) → (Nat → Int) → ag_St af_T := (sel (fun (e : Int) (j : Nat → Int) => ((45, [(0, .ref 31), (1, .int (i32 (j 1))), (2, .long (i64 (j 2))), (4, .int (i32 (j 4))), (5, .int (i32 e))], [], (khp m c, N), 0, 0) : ag_St af_T)) (fun (e : Unit) (j : Nat → Int) => ((59, [(0, .ref 31), (1, .int (i32 v1)), (2, .long (i64 (j 2))), (4, .int (i32 (j 4))), (5, .int (i32 (j 5)))], [], (khp m c, N), 0, 0) : ag_St af_T)))
def kfl_ss_goalOf_59 (v1 : Int) (m : mR) : Option Int :=
  some ((m.2 34) v1)
theorem dg_ss_goalOf_59 (B : oB) (w : wX) (c : Nat → Option am_C) (N D : Nat) (bb : Nat) (v1 : Int) (q1 : R32 v1) (m : mR) (hm : KCo B m) (j : Nat → Int) : PP bb w D pm_185 (59, [(0, .ref 31), (1, .int (i32 v1)), (2, .long (i64 (j 2))), (4, .int (i32 (j 4))), (5, .int (i32 (j 5)))], [], (khp m c, N), 0, 0) (QS (FP1 (khp m c, N)) (kfl_ss_goalOf_59 v1 m)) := by
  unfold kfl_ss_goalOf_59
  show PP bb w D pm_185 (59, [(0, .ref 31), (1, .int (i32 v1)), (2, .long (i64 (j 2))), (4, .int (i32 (j 4))), (5, .int (i32 (j 5)))], [], (khp (mO m [] []) c, N), 0, 0) _
  refine P_ld 60 (.ref 31) rfl (fun _ => rfl) ?_
  refine PK_gf 63 (.ref 40) rfl rfl kd_31 rfl rfl rfl ?_
  refine P_ld 64 (.int (i32 v1)) rfl (fun _ => rfl) ?_
  refine PK_iald2 65 34 (m.2 34) rfl rfl rfl q1 rfl ?_
  exact P_rp1 rfl (kE_i (KCn_a hm.1 34) rfl _)
def kfl_ss_goalOf_45 (v5 : Int) (m : mR) : Option Int :=
  some ((m.2 33) v5)
theorem dg_ss_goalOf_45 (B : oB) (w : wX) (c : Nat → Option am_C) (N D : Nat) (bb : Nat) (v5 : Int) (q5 : R32 v5) (m : mR) (hm : KCo B m) (j : Nat → Int) : PP bb w D pm_185 (45, [(0, .ref 31), (1, .int (i32 (j 1))), (2, .long (i64 (j 2))), (4, .int (i32 (j 4))), (5, .int (i32 v5))], [], (khp m c, N), 0, 0) (QS (FP1 (khp m c, N)) (kfl_ss_goalOf_45 v5 m)) := by
  unfold kfl_ss_goalOf_45
  show PP bb w D pm_185 (45, [(0, .ref 31), (1, .int (i32 (j 1))), (2, .long (i64 (j 2))), (4, .int (i32 (j 4))), (5, .int (i32 v5))], [], (khp (mO m [] []) c, N), 0, 0) _
  refine P_ld 46 (.ref 31) rfl (fun _ => rfl) ?_
  refine PK_gf 49 (.ref 39) rfl rfl kd_31 rfl rfl rfl ?_
  refine P_ld 51 (.int (i32 v5)) rfl (fun _ => rfl) ?_
  refine PK_iald2 52 33 (m.2 33) rfl rfl rfl q5 rfl ?_
  exact P_rp1 rfl (kE_i (KCn_a hm.1 33) rfl _)
def kfb_ss_goalOf_3 (v1 : Int) (v2 : Int) (m : mR) (s : Int) : Option (Sum (Int) (Sum (Int) (Unit))) :=
  if (m.2 30) v1 ≤ s then
    some (.inr (.inr ()))
  else
    if cmp64 (and64 (xor64 v2 ((m.2 31) (cut ((cut (v1 * 8)) + s)))) ((m.2 32) (cut ((cut (v1 * 8)) + s)))) 0 = 0 then
      some (.inr (.inl (cut ((cut (v1 * 8)) + s))))
    else
      some (.inl (cut (s + 1)))
theorem dh_ss_goalOf_3 (B : oB) (w : wX) (c : Nat → Option am_C) (N D : Nat) (v1 : Int) (v2 : Int) (q1 : R32 v1) (q2 : R64 v2) (m : mR) (hm : KCo B m) (bb : Nat) (Q2 : Sum (Int) (Sum (Int) (Unit)) → ag_Re af_T → Prop) (H1 : ∀ s j, cs_ss_goalOf_3 B s → PP bb w D pm_185 (hd_ss_goalOf_3 B c N v1 v2 m s j) (Q2 (.inl s))) (H2 : ∀ x j, cx_ss_goalOf_3 B x → PP bb w D pm_185 (ex_ss_goalOf_3 B c N v1 v2 m x j) (Q2 (.inr x))) (s : Int) (j : Nat → Int) (hs : cs_ss_goalOf_3 B s) : PP (bb + 1) w D pm_185 (hd_ss_goalOf_3 B c N v1 v2 m s j) (QS Q2 (kfb_ss_goalOf_3 v1 v2 m s)) := by
  have g4 := hs
  unfold kfb_ss_goalOf_3
  show PP (bb + 1) w D pm_185 (3, [(0, .ref 31), (1, .int (i32 v1)), (2, .long (i64 v2)), (4, .int (i32 s)), (5, .int (i32 (j 5)))], [], (khp (mO m [] []) c, N), 0, 0) _
  refine P1_ld 5 (.int (i32 s)) rfl (fun _ => rfl) ?_
  refine P_ld 6 (.ref 31) rfl (fun _ => rfl) ?_
  refine PK_gf 9 (.ref 36) rfl rfl kd_31 rfl rfl rfl ?_
  refine P_ld 10 (.int (i32 v1)) rfl (fun _ => rfl) ?_
  refine PK_iald2 11 30 (m.2 30) rfl rfl rfl q1 rfl ?_
  refine P_icF 59 14 rfl rfl rfl g4 (kE_i (KCn_a hm.1 30) rfl _) rfl (fun h3 => ?_) (fun h3 => ?_)
  · skip
    refine P_some ?_
    exact H2 (.inr ()) (jk [(2, v2), (4, s), (5, j 5)]) trivial
  · skip
    refine P_ld 15 (.int (i32 v1)) rfl (fun _ => rfl) ?_
    refine P_ld 17 (.int (i32 8)) rfl (fun _ => rfl) ?_
    refine P_op 18 (cut (v1 * 8)) _ rfl (fun _ => rfl) o_mul ?_
    refine P_ld 20 (.int (i32 s)) rfl (fun _ => rfl) ?_
    refine P_op 21 (cut ((cut (v1 * 8)) + s)) _ rfl (fun _ => rfl) o_add ?_
    refine P_sto 23 [(5, .int (i32 (cut ((cut (v1 * 8)) + s)))), (0, .ref 31), (1, .int (i32 v1)), (2, .long (i64 v2)), (4, .int (i32 s))] rfl (fun _ => rfl) ?_
    refine P_ld 24 (.long (i64 v2)) rfl (fun _ => rfl) ?_
    refine P_ld 25 (.ref 31) rfl (fun _ => rfl) ?_
    refine PK_gf 28 (.ref 37) rfl rfl kd_31 rfl rfl rfl ?_
    refine P_ld 30 (.int (i32 (cut ((cut (v1 * 8)) + s)))) rfl (fun _ => rfl) ?_
    refine PK_lald2 31 31 (m.2 31) rfl rfl rfl cut_r rfl ?_
    refine P_opl 32 (xor64 v2 ((m.2 31) (cut ((cut (v1 * 8)) + s)))) _ rfl (fun _ => rfl) (Int64.ofInt_toInt _).symm ?_
    refine P_ld 33 (.ref 31) rfl (fun _ => rfl) ?_
    refine PK_gf 36 (.ref 38) rfl rfl kd_31 rfl rfl rfl ?_
    refine P_ld 38 (.int (i32 (cut ((cut (v1 * 8)) + s)))) rfl (fun _ => rfl) ?_
    refine PK_lald2 39 32 (m.2 32) rfl rfl rfl cut_r rfl ?_
    refine P_opl 40 (and64 (xor64 v2 ((m.2 31) (cut ((cut (v1 * 8)) + s)))) ((m.2 32) (cut ((cut (v1 * 8)) + s)))) _ rfl (fun _ => rfl) (Int64.ofInt_toInt _).symm ?_
    refine P_ld 41 (.long (i64 0)) rfl (fun _ => rfl) ?_
    refine P_op 42 (cmp64 (and64 (xor64 v2 ((m.2 31) (cut ((cut (v1 * 8)) + s)))) ((m.2 32) (cut ((cut (v1 * 8)) + s)))) 0) _ rfl (fun _ => rfl) (o_cmp t64_r (l64 0 rfl)) ?_
    refine P_ifE 53 45 rfl rfl rfl cmp64_r rfl (fun h4 => ?_) (fun h4 => ?_)
    · skip
      refine P_some ?_
      refine P_lv (b := [(0, .ref 31), (1, .int (i32 v1)), (2, .long (i64 v2)), (4, .int (i32 s)), (5, .int (i32 (cut ((cut (v1 * 8)) + s))))]) rfl rfl ⟨rfl, rfl, rfl, rfl, rfl, trivial⟩ ?_
      exact H2 (.inl (cut ((cut (v1 * 8)) + s))) (jk [(1, v1), (2, v2), (4, s)]) cut_r
    · skip
      refine P_inc 56 [(4, .int (i32 (cut (s + 1)))), (5, .int (i32 (cut ((cut (v1 * 8)) + s)))), (0, .ref 31), (1, .int (i32 v1)), (2, .long (i64 v2))] rfl rfl (by decide) rfl rfl ?_
      refine P_goto 3 rfl (fun _ => rfl) ?_
      refine P_some ?_
      refine P_lv (b := [(0, .ref 31), (1, .int (i32 v1)), (2, .long (i64 v2)), (4, .int (i32 (cut (s + 1)))), (5, .int (i32 (cut ((cut (v1 * 8)) + s))))]) rfl rfl ⟨rfl, rfl, rfl, rfl, rfl, trivial⟩ ?_
      exact H1 (cut (s + 1)) (jk [(5, cut ((cut (v1 * 8)) + s))]) cut_r
def kf_ss_goalOf (v1 : Int) (v2 : Int) (m : mR) : Option Int :=
  bnd (whl (kfb_ss_goalOf_3 v1 v2 m) 0) (sel
    (fun e5 : Int =>
      kfl_ss_goalOf_45 e5 m)
    (fun e8 : Unit =>
      kfl_ss_goalOf_59 v1 m))
theorem D_ss_goalOf (B : oB) (w : wX) (m : mR) (c : Nat → Option am_C) (N D : Nat) (hm : KCo B m) (v1 : Int) (v2 : Int) (q1 : R32 v1) (q2 : R64 v2) : PC w D 185 [.ref 31, .int (i32 v1), .long (i64 v2)] (khp m c, N) (QS (FP1 (khp m c, N)) (kf_ss_goalOf v1 v2 m)) := by
  refine Pc_of (fun D bb => ?_) D
  unfold kf_ss_goalOf
  show PP bb w D pm_185 (0, [(0, .ref 31), (1, .int (i32 v1)), (2, .long (i64 v2))], [], (khp (mO m [] []) c, N), 0, 0) _
  refine P_ld 1 (.int (i32 0)) rfl (fun _ => rfl) ?_
  refine P_sto 3 [(4, .int (i32 0)), (0, .ref 31), (1, .int (i32 v1)), (2, .long (i64 v2))] rfl (fun _ => rfl) ?_
  refine P_lv (b := [(0, .ref 31), (1, .int (i32 v1)), (2, .long (i64 v2)), (4, .int (i32 0)), (5, .int (i32 0))]) rfl rfl ⟨rfl, rfl, rfl, rfl, trivial⟩ ?_
  refine P_bnd ?_
  refine P_whl (fun bb Q2 H1 H2 s9 j9 hs9 => dh_ss_goalOf_3 B w c N D v1 v2 q1 q2 m hm bb Q2 H1 H2 s9 j9 hs9) bb (fun x0 j hx0 => ?_) 0 (jk []) (l32 0 rfl)
  cases x0 with
  | inl e5 =>
    have q6 := hx0
    have q7 := q6
    show PP bb w D pm_185 (45, [(0, .ref 31), (1, .int (i32 (j 1))), (2, .long (i64 (j 2))), (4, .int (i32 (j 4))), (5, .int (i32 e5))], [], (khp (mO m [] []) c, N), 0, 0) (QS _ (kfl_ss_goalOf_45 e5 m))
    exact dg_ss_goalOf_45 B w c N D bb e5 q7 m hm (jk [(1, j 1), (2, j 2), (4, j 4)])
  | inr e8 =>
    have q9 := hx0
    show PP bb w D pm_185 (59, [(0, .ref 31), (1, .int (i32 v1)), (2, .long (i64 (j 2))), (4, .int (i32 (j 4))), (5, .int (i32 (j 5)))], [], (khp (mO m [] []) c, N), 0, 0) (QS _ (kfl_ss_goalOf_59 v1 m))
    exact dg_ss_goalOf_59 B w c N D bb v1 q1 m hm (jk [(2, j 2), (4, j 4), (5, j 5)])
def cs_op_extract_66 (B : oB) (s : Int × Int × mR) : Prop := R32 s.1 ∧ R32 s.2.1 ∧ KCo B s.2.2
def cx_op_extract_66 (B : oB) : (mR) → Prop := (fun (e : mR) => KCo B e)
def hd_op_extract_66 (B : oB) (c : Nat → Option am_C) (N : Nat) (v0 : Int) (v2 : Int) (v3 : Int) (v4 : Int) (s : Int × Int × mR) (j : Nat → Int) : ag_St af_T := (66, [(0, .ref (obo B v0)), (1, .ref 12), (2, .int (i32 v2)), (3, .int (i32 v3)), (4, .int (i32 v4)), (5, .int (i32 s.1)), (6, .int (i32 s.2.1)), (7, .int (i32 (j 7))), (8, .long (i64 (j 8))), (10, .int (i32 (j 10)))], [], (khp s.2.2 c, N), 0, 0)
def ex_op_extract_66 (B : oB) (c : Nat → Option am_C) (N : Nat) (v0 : Int) (v2 : Int) (v3 : Int) (v4 : Int) : (mR) → (Nat → Int) → ag_St af_T := (fun (e : mR) (j : Nat → Int) => ((152, [(0, .ref (obo B v0)), (1, .ref 12), (2, .int (i32 (j 2))), (3, .int (i32 (j 3))), (4, .int (i32 v4)), (5, .int (i32 (j 5))), (6, .int (i32 (j 6))), (7, .int (i32 (j 7))), (8, .long (i64 (j 8))), (10, .int (i32 (j 10)))], [], (khp e c, N), 0, 0) : ag_St af_T))
def cs_op_extract_88 (B : oB) (s : Int × Int × Int) : Prop := R32 s.1 ∧ R64 s.2.1 ∧ R32 s.2.2
def cx_op_extract_88 (B : oB) : (Int × Int) → Prop := (fun (e : Int × Int) => R32 e.1 ∧ R64 e.2)
def hd_op_extract_88 (B : oB) (c : Nat → Option am_C) (N : Nat) (v0 : Int) (v2 : Int) (v3 : Int) (v4 : Int) (v6 : Int) (v7 : Int) (m : mR) (s : Int × Int × Int) (j : Nat → Int) : ag_St af_T := (88, [(0, .ref (obo B v0)), (1, .ref 12), (2, .int (i32 v2)), (3, .int (i32 v3)), (4, .int (i32 v4)), (5, .int (i32 s.1)), (6, .int (i32 v6)), (7, .int (i32 v7)), (8, .long (i64 s.2.1)), (10, .int (i32 s.2.2))], [], (khp m c, N), 0, 0)
def ex_op_extract_88 (B : oB) (c : Nat → Option am_C) (N : Nat) (v0 : Int) (v2 : Int) (v3 : Int) (v4 : Int) (v6 : Int) (v7 : Int) (m : mR) : (Int × Int) → (Nat → Int) → ag_St af_T := (fun (e : Int × Int) (j : Nat → Int) => ((133, [(0, .ref (obo B v0)), (1, .ref 12), (2, .int (i32 v2)), (3, .int (i32 v3)), (4, .int (i32 v4)), (5, .int (i32 e.1)), (6, .int (i32 v6)), (7, .int (i32 (j 7))), (8, .long (i64 e.2)), (10, .int (i32 (j 10)))], [], (khp m c, N), 0, 0) : ag_St af_T))
def kfl_op_extract_152 (v0 : Int) (v4 : Int) (m : mR) : Option (Int × mR) :=
  some (1, (mO m [] [(94, upI (m.2 94) v0 (cut (((m.2 94) v0) + v4)))]))
theorem dg_op_extract_152 (B : oB) (w : wX) (c : Nat → Option am_C) (N D : Nat) (bb : Nat) (v0 : Int) (v4 : Int) (q0 : OKo B v0) (q4 : R32 v4) (m : mR) (hm : KCo B m) (j : Nat → Int) : PP bb w D pm_182 (152, [(0, .ref (obo B v0)), (1, .ref 12), (2, .int (i32 (j 2))), (3, .int (i32 (j 3))), (4, .int (i32 v4)), (5, .int (i32 (j 5))), (6, .int (i32 (j 6))), (7, .int (i32 (j 7))), (8, .long (i64 (j 8))), (10, .int (i32 (j 10)))], [], (khp m c, N), 0, 0) (QS (FO1 B c N) (kfl_op_extract_152 v0 v4 m)) := by
  unfold kfl_op_extract_152
  show PP bb w D pm_182 (152, [(0, .ref (obo B v0)), (1, .ref 12), (2, .int (i32 (j 2))), (3, .int (i32 (j 3))), (4, .int (i32 v4)), (5, .int (i32 (j 5))), (6, .int (i32 (j 6))), (7, .int (i32 (j 7))), (8, .long (i64 (j 8))), (10, .int (i32 (j 10)))], [], (khp (mO m [] []) c, N), 0, 0) _
  refine P_ld 153 (.ref (obo B v0)) rfl (fun _ => rfl) ?_
  refine P_ld 154 (.ref (obo B v0)) rfl (fun _ => rfl) ?_
  refine PK_goi 157 94 (m.2 94) rfl rfl (OKr_o hm rfl rfl q0) (obr_o hm rfl) rfl rfl ?_
  refine P_ld 159 (.int (i32 v4)) rfl (fun _ => rfl) ?_
  refine P_op 160 (cut (((m.2 94) v0) + v4)) _ rfl (fun _ => rfl) o_add ?_
  refine PK_poi (a' := [(94, upI (m.2 94) v0 (cut (((m.2 94) v0) + v4)))]) 163 94 (m.2 94) rfl rfl rfl (OKr_o hm rfl rfl q0) (OWu_o hm rfl rfl) (obr_o hm rfl) rfl rfl rfl ?_
  refine P_ld 164 (.int (i32 1)) rfl (fun _ => rfl) ?_
  exact P_ro1 rfl (l32 1 rfl) (KCo_mO hm rfl rfl (KC6 hm rfl) trivial ⟨(kE_ui (KCn_a hm.1 94) rfl cut_r), trivial⟩)
def kfl_op_extract_133 (v0 : Int) (v2 : Int) (v3 : Int) (v4 : Int) (v5 : Int) (v6 : Int) (v8 : Int) (m : mR) : Option (Sum (Int × Int × mR) (mR)) :=
  some (.inl (v5, cut (v6 + 1), (mO m [] [(101, upI (m.2 101) (65536 * v0 + (cut ((cut (v3 + 1)) + v6))) v8)])))
theorem dg_op_extract_133 (B : oB) (w : wX) (c : Nat → Option am_C) (N D : Nat) (bb : Nat) (v0 : Int) (v2 : Int) (v3 : Int) (v4 : Int) (v5 : Int) (v6 : Int) (v8 : Int) (q0 : OKo B v0) (q2 : R32 v2) (q3 : R32 v3) (q4 : R32 v4) (q5 : R32 v5) (q6 : R32 v6) (q8 : R64 v8) (m : mR) (hm : KCo B m) (j : Nat → Int) (Q2 : Sum (Int × Int × mR) (mR) → ag_Re af_T → Prop) (H1 : ∀ s j, cs_op_extract_66 B s → PP bb w D pm_182 (hd_op_extract_66 B c N v0 v2 v3 v4 s j) (Q2 (.inl s))) (H2 : ∀ x j, cx_op_extract_66 B x → PP bb w D pm_182 (ex_op_extract_66 B c N v0 v2 v3 v4 x j) (Q2 (.inr x))) : PP bb w D pm_182 (133, [(0, .ref (obo B v0)), (1, .ref 12), (2, .int (i32 v2)), (3, .int (i32 v3)), (4, .int (i32 v4)), (5, .int (i32 v5)), (6, .int (i32 v6)), (7, .int (i32 (j 7))), (8, .long (i64 v8)), (10, .int (i32 (j 10)))], [], (khp m c, N), 0, 0) (QS Q2 (kfl_op_extract_133 v0 v2 v3 v4 v5 v6 v8 m)) := by
  unfold kfl_op_extract_133
  show PP bb w D pm_182 (133, [(0, .ref (obo B v0)), (1, .ref 12), (2, .int (i32 v2)), (3, .int (i32 v3)), (4, .int (i32 v4)), (5, .int (i32 v5)), (6, .int (i32 v6)), (7, .int (i32 (j 7))), (8, .long (i64 v8)), (10, .int (i32 (j 10)))], [], (khp (mO m [] []) c, N), 0, 0) _
  refine P_ld 134 (.ref (obo B v0)) rfl (fun _ => rfl) ?_
  refine PK_gor 137 rfl rfl (OKr_o hm rfl rfl q0) (obr_o hm rfl) rfl ?_
  refine P_ld 138 (.int (i32 v3)) rfl (fun _ => rfl) ?_
  refine P_ld 139 (.int (i32 1)) rfl (fun _ => rfl) ?_
  refine P_op 140 (cut (v3 + 1)) _ rfl (fun _ => rfl) o_add ?_
  refine P_ld 142 (.int (i32 v6)) rfl (fun _ => rfl) ?_
  refine P_op 143 (cut ((cut (v3 + 1)) + v6)) _ rfl (fun _ => rfl) o_add ?_
  refine P_ld 145 (.long (i64 v8)) rfl (fun _ => rfl) ?_
  refine PK_lasto2 (a' := [(101, upI (m.2 101) (65536 * v0 + (cut ((cut (v3 + 1)) + v6))) v8)]) 146 1 (m.2 101) rfl rfl rfl hm rfl rfl q0 cut_r rfl rfl ?_
  refine P_inc 149 [(6, .int (i32 (cut (v6 + 1)))), (0, .ref (obo B v0)), (1, .ref 12), (2, .int (i32 v2)), (3, .int (i32 v3)), (4, .int (i32 v4)), (5, .int (i32 v5)), (7, .int (i32 (j 7))), (8, .long (i64 v8)), (10, .int (i32 (j 10)))] rfl rfl (by decide) rfl rfl ?_
  refine P_goto 66 rfl (fun _ => rfl) ?_
  refine P_some ?_
  refine P_lv (b := [(0, .ref (obo B v0)), (1, .ref 12), (2, .int (i32 v2)), (3, .int (i32 v3)), (4, .int (i32 v4)), (5, .int (i32 v5)), (6, .int (i32 (cut (v6 + 1)))), (7, .int (i32 (j 7))), (8, .long (i64 v8)), (10, .int (i32 (j 10)))]) rfl rfl ⟨rfl, rfl, rfl, rfl, rfl, rfl, rfl, rfl, rfl, rfl, trivial⟩ ?_
  exact H1 (v5, cut (v6 + 1), (mO m [] [(101, upI (m.2 101) (65536 * v0 + (cut ((cut (v3 + 1)) + v6))) v8)])) (jk [(7, j 7), (8, v8), (10, j 10)]) ⟨q5, cut_r, (KCo_mO hm rfl rfl (KC6 hm rfl) trivial ⟨(kE_ul (KCn_a hm.1 101) rfl q8), trivial⟩)⟩
def kfb_op_extract_88 (v0 : Int) (v2 : Int) (v3 : Int) (v4 : Int) (v6 : Int) (v7 : Int) (m : mR) (s : Int × Int × Int) : Option (Sum (Int × Int × Int) (Int × Int)) :=
  if v7 ≤ s.2.2 then
    some (.inr (s.1, s.2.1))
  else
    some (.inl (cut (s.1 + 1), or64 (shl64 s.2.1 1) (and32 (ushr32 ((m.2 100) (65536 * v0 + (s.1.tdiv 8))) (cut (7 - (s.1.tmod 8)))) 1), cut (s.2.2 + 1)))
theorem dh_op_extract_88 (B : oB) (w : wX) (c : Nat → Option am_C) (N D : Nat) (v0 : Int) (v2 : Int) (v3 : Int) (v4 : Int) (v6 : Int) (v7 : Int) (q0 : OKo B v0) (q2 : R32 v2) (q3 : R32 v3) (q4 : R32 v4) (q6 : R32 v6) (q7 : R32 v7) (m : mR) (hm : KCo B m) (bb : Nat) (Q2 : Sum (Int × Int × Int) (Int × Int) → ag_Re af_T → Prop) (H1 : ∀ s j, cs_op_extract_88 B s → PP bb w D pm_182 (hd_op_extract_88 B c N v0 v2 v3 v4 v6 v7 m s j) (Q2 (.inl s))) (H2 : ∀ x j, cx_op_extract_88 B x → PP bb w D pm_182 (ex_op_extract_88 B c N v0 v2 v3 v4 v6 v7 m x j) (Q2 (.inr x))) (s : Int × Int × Int) (j : Nat → Int) (hs : cs_op_extract_88 B s) : PP (bb + 1) w D pm_182 (hd_op_extract_88 B c N v0 v2 v3 v4 v6 v7 m s j) (QS Q2 (kfb_op_extract_88 v0 v2 v3 v4 v6 v7 m s)) := by
  obtain ⟨g5, g8, g10⟩ := hs
  unfold kfb_op_extract_88
  show PP (bb + 1) w D pm_182 (88, [(0, .ref (obo B v0)), (1, .ref 12), (2, .int (i32 v2)), (3, .int (i32 v3)), (4, .int (i32 v4)), (5, .int (i32 s.1)), (6, .int (i32 v6)), (7, .int (i32 v7)), (8, .long (i64 s.2.1)), (10, .int (i32 s.2.2))], [], (khp (mO m [] []) c, N), 0, 0) _
  refine P1_ld 90 (.int (i32 s.2.2)) rfl (fun _ => rfl) ?_
  refine P_ld 92 (.int (i32 v7)) rfl (fun _ => rfl) ?_
  refine P_icF 133 95 rfl rfl rfl g10 q7 rfl (fun h6 => ?_) (fun h6 => ?_)
  · skip
    refine P_some ?_
    exact H2 (s.1, s.2.1) (jk [(7, v7), (10, s.2.2)]) ⟨g5, g8⟩
  · skip
    refine P_ld 97 (.long (i64 s.2.1)) rfl (fun _ => rfl) ?_
    refine P_ld 98 (.int (i32 1)) rfl (fun _ => rfl) ?_
    refine P_opl 99 (shl64 s.2.1 1) _ rfl (fun _ => rfl) (Int64.ofInt_toInt _).symm ?_
    refine P_ld 100 (.ref (obo B v0)) rfl (fun _ => rfl) ?_
    refine PK_gor 103 rfl rfl (OKr_o hm rfl rfl q0) (obr_o hm rfl) rfl ?_
    refine P_ld 105 (.int (i32 s.1)) rfl (fun _ => rfl) ?_
    refine P_ld 107 (.int (i32 8)) rfl (fun _ => rfl) ?_
    refine P_div 108 rfl rfl g5 (by decide) (by decide) ?_
    refine PK_balo2 109 0 (m.2 100) rfl rfl rfl hm rfl rfl q0 (tdiv_r g5 (by decide)) rfl ?_
    refine P_ld 111 (.int (i32 7)) rfl (fun _ => rfl) ?_
    refine P_ld 113 (.int (i32 s.1)) rfl (fun _ => rfl) ?_
    refine P_ld 115 (.int (i32 8)) rfl (fun _ => rfl) ?_
    refine P_rem 116 rfl rfl g5 (by decide) (by decide) ?_
    refine P_op 117 (cut (7 - (s.1.tmod 8))) _ rfl (fun _ => rfl) o_sub ?_
    refine P_op 118 (ushr32 ((m.2 100) (65536 * v0 + (s.1.tdiv 8))) (cut (7 - (s.1.tmod 8)))) _ rfl (fun _ => rfl) (i32_of _).symm ?_
    refine P_ld 119 (.int (i32 1)) rfl (fun _ => rfl) ?_
    refine P_op 120 (and32 (ushr32 ((m.2 100) (65536 * v0 + (s.1.tdiv 8))) (cut (7 - (s.1.tmod 8)))) 1) _ rfl (fun _ => rfl) (i32_of _).symm ?_
    refine P_opl 121 (and32 (ushr32 ((m.2 100) (65536 * v0 + (s.1.tdiv 8))) (cut (7 - (s.1.tmod 8)))) 1) _ rfl (fun _ => rfl) (o_i2l t32_r) ?_
    refine P_opl 122 (or64 (shl64 s.2.1 1) (and32 (ushr32 ((m.2 100) (65536 * v0 + (s.1.tdiv 8))) (cut (7 - (s.1.tmod 8)))) 1)) _ rfl (fun _ => rfl) (Int64.ofInt_toInt _).symm ?_
    refine P_sto 124 [(8, .long (i64 (or64 (shl64 s.2.1 1) (and32 (ushr32 ((m.2 100) (65536 * v0 + (s.1.tdiv 8))) (cut (7 - (s.1.tmod 8)))) 1)))), (0, .ref (obo B v0)), (1, .ref 12), (2, .int (i32 v2)), (3, .int (i32 v3)), (4, .int (i32 v4)), (5, .int (i32 s.1)), (6, .int (i32 v6)), (7, .int (i32 v7)), (10, .int (i32 s.2.2))] rfl (fun _ => rfl) ?_
    refine P_inc 127 [(5, .int (i32 (cut (s.1 + 1)))), (8, .long (i64 (or64 (shl64 s.2.1 1) (and32 (ushr32 ((m.2 100) (65536 * v0 + (s.1.tdiv 8))) (cut (7 - (s.1.tmod 8)))) 1)))), (0, .ref (obo B v0)), (1, .ref 12), (2, .int (i32 v2)), (3, .int (i32 v3)), (4, .int (i32 v4)), (6, .int (i32 v6)), (7, .int (i32 v7)), (10, .int (i32 s.2.2))] rfl rfl (by decide) rfl rfl ?_
    refine P_inc 130 [(10, .int (i32 (cut (s.2.2 + 1)))), (5, .int (i32 (cut (s.1 + 1)))), (8, .long (i64 (or64 (shl64 s.2.1 1) (and32 (ushr32 ((m.2 100) (65536 * v0 + (s.1.tdiv 8))) (cut (7 - (s.1.tmod 8)))) 1)))), (0, .ref (obo B v0)), (1, .ref 12), (2, .int (i32 v2)), (3, .int (i32 v3)), (4, .int (i32 v4)), (6, .int (i32 v6)), (7, .int (i32 v7))] rfl rfl (by decide) rfl rfl ?_
    refine P_goto 88 rfl (fun _ => rfl) ?_
    refine P_some ?_
    refine P_lv (b := [(0, .ref (obo B v0)), (1, .ref 12), (2, .int (i32 v2)), (3, .int (i32 v3)), (4, .int (i32 v4)), (5, .int (i32 (cut (s.1 + 1)))), (6, .int (i32 v6)), (7, .int (i32 v7)), (8, .long (i64 (or64 (shl64 s.2.1 1) (and32 (ushr32 ((m.2 100) (65536 * v0 + (s.1.tdiv 8))) (cut (7 - (s.1.tmod 8)))) 1)))), (10, .int (i32 (cut (s.2.2 + 1))))]) rfl rfl ⟨rfl, rfl, rfl, rfl, rfl, rfl, rfl, rfl, rfl, rfl, trivial⟩ ?_
    exact H1 (cut (s.1 + 1), or64 (shl64 s.2.1 1) (and32 (ushr32 ((m.2 100) (65536 * v0 + (s.1.tdiv 8))) (cut (7 - (s.1.tmod 8)))) 1), cut (s.2.2 + 1)) (jk []) ⟨cut_r, t64_r, cut_r⟩
def kfb_op_extract_66 (v0 : Int) (v2 : Int) (v3 : Int) (v4 : Int) (s : Int × Int × mR) : Option (Sum (Int × Int × mR) (mR)) :=
  if (16 : Int) ≤ s.2.1 then
    some (.inr s.2.2)
  else
    bnd (kf_pr_widthOfField v2 s.2.1 s.2.2) fun y9 =>
    bnd (whl (kfb_op_extract_88 v0 v2 v3 v4 s.2.1 y9 s.2.2) (s.1, 0, 0)) (fun e12 : Int × Int =>
      kfl_op_extract_133 v0 v2 v3 v4 e12.1 s.2.1 e12.2 s.2.2)
theorem dh_op_extract_66 (B : oB) (w : wX) (c : Nat → Option am_C) (N D : Nat) (v0 : Int) (v2 : Int) (v3 : Int) (v4 : Int) (q0 : OKo B v0) (q2 : R32 v2) (q3 : R32 v3) (q4 : R32 v4) (bb : Nat) (Q2 : Sum (Int × Int × mR) (mR) → ag_Re af_T → Prop) (H1 : ∀ s j, cs_op_extract_66 B s → PP bb w D pm_182 (hd_op_extract_66 B c N v0 v2 v3 v4 s j) (Q2 (.inl s))) (H2 : ∀ x j, cx_op_extract_66 B x → PP bb w D pm_182 (ex_op_extract_66 B c N v0 v2 v3 v4 x j) (Q2 (.inr x))) (s : Int × Int × mR) (j : Nat → Int) (hs : cs_op_extract_66 B s) : PP (bb + 1) w D pm_182 (hd_op_extract_66 B c N v0 v2 v3 v4 s j) (QS Q2 (kfb_op_extract_66 v0 v2 v3 v4 s)) := by
  obtain ⟨g5, g6, gm⟩ := hs
  unfold kfb_op_extract_66
  show PP (bb + 1) w D pm_182 (66, [(0, .ref (obo B v0)), (1, .ref 12), (2, .int (i32 v2)), (3, .int (i32 v3)), (4, .int (i32 v4)), (5, .int (i32 s.1)), (6, .int (i32 s.2.1)), (7, .int (i32 (j 7))), (8, .long (i64 (j 8))), (10, .int (i32 (j 10)))], [], (khp (mO s.2.2 [] []) c, N), 0, 0) _
  refine P1_ld 68 (.int (i32 s.2.1)) rfl (fun _ => rfl) ?_
  refine P_ld 70 (.int (i32 16)) rfl (fun _ => rfl) ?_
  refine P_icF 152 73 rfl rfl rfl g6 (l32 16 rfl) rfl (fun h8 => ?_) (fun h8 => ?_)
  · skip
    refine P_some ?_
    exact H2 s.2.2 (jk [(2, v2), (3, v3), (5, s.1), (6, s.2.1), (7, j 7), (8, j 8), (10, j 10)]) gm
  · skip
    refine P_ld 74 (.ref 12) rfl (fun _ => rfl) ?_
    refine P_ld 75 (.int (i32 v2)) rfl (fun _ => rfl) ?_
    refine P_ld 77 (.int (i32 s.2.1)) rfl (fun _ => rfl) ?_
    refine P_cp1 80 101 [.ref 12, .int (i32 v2), .int (i32 s.2.1)] [] rfl (fun _ => rfl) rfl (D_pr_widthOfField w s.2.2 c N D gm.1 v2 s.2.1 q2 g6) (fun y9 h10 => ?_)
    refine P_sto 82 [(7, .int (i32 y9)), (0, .ref (obo B v0)), (1, .ref 12), (2, .int (i32 v2)), (3, .int (i32 v3)), (4, .int (i32 v4)), (5, .int (i32 s.1)), (6, .int (i32 s.2.1)), (8, .long (i64 (j 8))), (10, .int (i32 (j 10)))] rfl (fun _ => rfl) ?_
    refine P_ld 83 (.long (i64 0)) rfl (fun _ => rfl) ?_
    refine P_sto 85 [(8, .long (i64 0)), (7, .int (i32 y9)), (0, .ref (obo B v0)), (1, .ref 12), (2, .int (i32 v2)), (3, .int (i32 v3)), (4, .int (i32 v4)), (5, .int (i32 s.1)), (6, .int (i32 s.2.1)), (10, .int (i32 (j 10)))] rfl (fun _ => rfl) ?_
    refine P_ld 86 (.int (i32 0)) rfl (fun _ => rfl) ?_
    refine P_sto 88 [(10, .int (i32 0)), (8, .long (i64 0)), (7, .int (i32 y9)), (0, .ref (obo B v0)), (1, .ref 12), (2, .int (i32 v2)), (3, .int (i32 v3)), (4, .int (i32 v4)), (5, .int (i32 s.1)), (6, .int (i32 s.2.1))] rfl (fun _ => rfl) ?_
    refine P_lv (b := [(0, .ref (obo B v0)), (1, .ref 12), (2, .int (i32 v2)), (3, .int (i32 v3)), (4, .int (i32 v4)), (5, .int (i32 s.1)), (6, .int (i32 s.2.1)), (7, .int (i32 y9)), (8, .long (i64 0)), (10, .int (i32 0))]) rfl rfl ⟨rfl, rfl, rfl, rfl, rfl, rfl, rfl, rfl, rfl, rfl, trivial⟩ ?_
    refine P_bnd ?_
    refine P_whl (fun bb Q2 H1 H2 s9 j9 hs9 => dh_op_extract_88 B w c N D v0 v2 v3 v4 s.2.1 y9 q0 q2 q3 q4 g6 h10 s.2.2 gm bb Q2 H1 H2 s9 j9 hs9) bb (fun e12 j q13 => ?_) (s.1, 0, 0) (jk []) ⟨g5, (l64 0 rfl), (l32 0 rfl)⟩
    obtain ⟨q14, q15⟩ := q13
    show PP bb w D pm_182 (133, [(0, .ref (obo B v0)), (1, .ref 12), (2, .int (i32 v2)), (3, .int (i32 v3)), (4, .int (i32 v4)), (5, .int (i32 e12.1)), (6, .int (i32 s.2.1)), (7, .int (i32 (j 7))), (8, .long (i64 e12.2)), (10, .int (i32 (j 10)))], [], (khp (mO s.2.2 [] []) c, N), 0, 0) (QS _ (kfl_op_extract_133 v0 v2 v3 v4 e12.1 s.2.1 e12.2 s.2.2))
    exact dg_op_extract_133 B w c N D bb v0 v2 v3 v4 e12.1 s.2.1 e12.2 q0 q2 q3 q4 q14 g6 q15 s.2.2 gm (jk [(7, j 7), (10, j 10)]) Q2 H1 H2
def kf_op_extract (v0 : Int) (v2 : Int) (m : mR) : Option (Int × mR) :=
  bnd (kf_pr_headerBits ((m.2 13) v2) m) fun y16 =>
  if cmp64 ((m.2 101) (65536 * v0 + (cut (v2 * 17)))) 0 = 0 then
    if cut (((m.2 94) v0) + (y16.tdiv 8)) ≤ (m.2 92) v0 then
      bnd (whl (kfb_op_extract_66 v0 v2 (cut (v2 * 17)) (y16.tdiv 8)) (cut (((m.2 94) v0) * 8), 0, (mO m [] [(101, upI (m.2 101) (65536 * v0 + (cut (v2 * 17))) 1)]))) (fun e21 : mR =>
        kfl_op_extract_152 v0 (y16.tdiv 8) e21)
    else
      some (0, m)
  else
    some (0, m)
theorem D_op_extract (B : oB) (w : wX) (m : mR) (c : Nat → Option am_C) (N D : Nat) (hm : KCo B m) (v0 : Int) (v2 : Int) (q0 : OKo B v0) (q2 : R32 v2) : PC w D 182 [.ref (obo B v0), .ref 12, .int (i32 v2)] (khp m c, N) (QS (FO1 B c N) (kf_op_extract v0 v2 m)) := by
  refine Pc_of (fun D bb => ?_) D
  unfold kf_op_extract
  show PP bb w D pm_182 (0, [(0, .ref (obo B v0)), (1, .ref 12), (2, .int (i32 v2))], [], (khp (mO m [] []) c, N), 0, 0) _
  refine P_ld 1 (.int (i32 v2)) rfl (fun _ => rfl) ?_
  refine P_ld 3 (.int (i32 17)) rfl (fun _ => rfl) ?_
  refine P_op 4 (cut (v2 * 17)) _ rfl (fun _ => rfl) o_mul ?_
  refine P_sto 5 [(3, .int (i32 (cut (v2 * 17)))), (0, .ref (obo B v0)), (1, .ref 12), (2, .int (i32 v2))] rfl (fun _ => rfl) ?_
  refine P_ld 6 (.ref 12) rfl (fun _ => rfl) ?_
  refine P_ld 7 (.ref 12) rfl (fun _ => rfl) ?_
  refine PK_gf 10 (.ref 16) rfl rfl kd_12 rfl rfl rfl ?_
  refine P_ld 11 (.int (i32 v2)) rfl (fun _ => rfl) ?_
  refine PK_iald2 12 13 (m.2 13) rfl rfl rfl q2 rfl ?_
  refine P_cp1 15 29 [.ref 12, .int (i32 ((m.2 13) v2))] [] rfl (fun _ => rfl) rfl (D_pr_headerBits w m c N D hm.1 ((m.2 13) v2) (kE_i (KCn_a hm.1 13) rfl _)) (fun y16 h17 => ?_)
  refine P_ld 17 (.int (i32 8)) rfl (fun _ => rfl) ?_
  refine P_div 18 rfl rfl h17 (by decide) (by decide) ?_
  refine P_sto 20 [(4, .int (i32 (y16.tdiv 8))), (3, .int (i32 (cut (v2 * 17)))), (0, .ref (obo B v0)), (1, .ref 12), (2, .int (i32 v2))] rfl (fun _ => rfl) ?_
  refine P_ld 21 (.ref (obo B v0)) rfl (fun _ => rfl) ?_
  refine PK_gor 24 rfl rfl (OKr_o hm rfl rfl q0) (obr_o hm rfl) rfl ?_
  refine P_ld 25 (.int (i32 (cut (v2 * 17)))) rfl (fun _ => rfl) ?_
  refine PK_lalo2 26 1 (m.2 101) rfl rfl rfl hm rfl rfl q0 cut_r rfl ?_
  refine P_ld 27 (.long (i64 0)) rfl (fun _ => rfl) ?_
  refine P_op 28 (cmp64 ((m.2 101) (65536 * v0 + (cut (v2 * 17)))) 0) _ rfl (fun _ => rfl) (o_cmp (kE_l (KCn_a hm.1 101) rfl _) (l64 0 rfl)) ?_
  refine P_ifE 45 31 rfl rfl rfl cmp64_r rfl (fun h19 => ?_) (fun h19 => ?_)
  · skip
    refine P_ld 32 (.ref (obo B v0)) rfl (fun _ => rfl) ?_
    refine PK_goi 35 94 (m.2 94) rfl rfl (OKr_o hm rfl rfl q0) (obr_o hm rfl) rfl rfl ?_
    refine P_ld 37 (.int (i32 (y16.tdiv 8))) rfl (fun _ => rfl) ?_
    refine P_op 38 (cut (((m.2 94) v0) + (y16.tdiv 8))) _ rfl (fun _ => rfl) o_add ?_
    refine P_ld 39 (.ref (obo B v0)) rfl (fun _ => rfl) ?_
    refine PK_goi 42 92 (m.2 92) rfl rfl (OKr_o hm rfl rfl q0) (obr_o hm rfl) rfl rfl ?_
    refine P_icF 47 45 rfl rfl rfl cut_r (kE_i (KCn_a hm.1 92) rfl _) rfl (fun h20 => ?_) (fun h20 => ?_)
    · skip
      refine P_ld 48 (.ref (obo B v0)) rfl (fun _ => rfl) ?_
      refine PK_gor 51 rfl rfl (OKr_o hm rfl rfl q0) (obr_o hm rfl) rfl ?_
      refine P_ld 52 (.int (i32 (cut (v2 * 17)))) rfl (fun _ => rfl) ?_
      refine P_ld 53 (.long (i64 1)) rfl (fun _ => rfl) ?_
      refine PK_lasto2 (a' := [(101, upI (m.2 101) (65536 * v0 + (cut (v2 * 17))) 1)]) 54 1 (m.2 101) rfl rfl rfl hm rfl rfl q0 cut_r rfl rfl ?_
      refine P_ld 55 (.ref (obo B v0)) rfl (fun _ => rfl) ?_
      refine PK_goi 58 94 (m.2 94) rfl rfl (OKr_o hm rfl rfl q0) (obr_o hm rfl) rfl rfl ?_
      refine P_ld 60 (.int (i32 8)) rfl (fun _ => rfl) ?_
      refine P_op 61 (cut (((m.2 94) v0) * 8)) _ rfl (fun _ => rfl) o_mul ?_
      refine P_sto 63 [(5, .int (i32 (cut (((m.2 94) v0) * 8)))), (4, .int (i32 (y16.tdiv 8))), (3, .int (i32 (cut (v2 * 17)))), (0, .ref (obo B v0)), (1, .ref 12), (2, .int (i32 v2))] rfl (fun _ => rfl) ?_
      refine P_ld 64 (.int (i32 0)) rfl (fun _ => rfl) ?_
      refine P_sto 66 [(6, .int (i32 0)), (5, .int (i32 (cut (((m.2 94) v0) * 8)))), (4, .int (i32 (y16.tdiv 8))), (3, .int (i32 (cut (v2 * 17)))), (0, .ref (obo B v0)), (1, .ref 12), (2, .int (i32 v2))] rfl (fun _ => rfl) ?_
      refine P_lv (b := [(0, .ref (obo B v0)), (1, .ref 12), (2, .int (i32 v2)), (3, .int (i32 (cut (v2 * 17)))), (4, .int (i32 (y16.tdiv 8))), (5, .int (i32 (cut (((m.2 94) v0) * 8)))), (6, .int (i32 0)), (7, .int (i32 0)), (8, .long (i64 0)), (10, .int (i32 0))]) rfl rfl ⟨rfl, rfl, rfl, rfl, rfl, rfl, rfl, trivial⟩ ?_
      refine P_bnd ?_
      refine P_whl (fun bb Q2 H1 H2 s9 j9 hs9 => dh_op_extract_66 B w c N D v0 v2 (cut (v2 * 17)) (y16.tdiv 8) q0 q2 cut_r (tdiv_r h17 (by decide)) bb Q2 H1 H2 s9 j9 hs9) bb (fun e21 j q22 => ?_) (cut (((m.2 94) v0) * 8), 0, (mO m [] [(101, upI (m.2 101) (65536 * v0 + (cut (v2 * 17))) 1)])) (jk []) ⟨cut_r, (l32 0 rfl), (KCo_mO hm rfl rfl (KC6 hm rfl) trivial ⟨(kE_ul (KCn_a hm.1 101) rfl (l64 1 rfl)), trivial⟩)⟩
      have q23 := q22
      show PP bb w D pm_182 (152, [(0, .ref (obo B v0)), (1, .ref 12), (2, .int (i32 (j 2))), (3, .int (i32 (j 3))), (4, .int (i32 (y16.tdiv 8))), (5, .int (i32 (j 5))), (6, .int (i32 (j 6))), (7, .int (i32 (j 7))), (8, .long (i64 (j 8))), (10, .int (i32 (j 10)))], [], (khp (mO e21 [] []) c, N), 0, 0) (QS _ (kfl_op_extract_152 v0 (y16.tdiv 8) e21))
      exact dg_op_extract_152 B w c N D bb v0 (y16.tdiv 8) q0 (tdiv_r h17 (by decide)) e21 q23 (jk [(2, j 2), (3, j 3), (5, j 5), (6, j 6), (7, j 7), (8, j 8), (10, j 10)])
    · skip
      refine P_ld 46 (.int (i32 0)) rfl (fun _ => rfl) ?_
      exact P_ro1 rfl (l32 0 rfl) hm
  · skip
    refine P_ld 46 (.int (i32 0)) rfl (fun _ => rfl) ?_
    exact P_ro1 rfl (l32 0 rfl) hm
def cs_op_pass_8 (B : oB) (s : Int × mR) : Prop := R32 s.1 ∧ KCo B s.2
def cx_op_pass_8 (B : oB) : (Sum (mR) (mR)) → Prop := (sel (fun (e : mR) => KCo B e) (fun (e : mR) => KCo B e))
def hd_op_pass_8 (B : oB) (c : Nat → Option am_C) (N : Nat) (v0 : Int) (v2 : Int) (s : Int × mR) (j : Nat → Int) : ag_St af_T := (8, [(0, .ref (obo B v0)), (1, .ref 12), (2, .int (i32 v2)), (3, .ref 31), (4, .int (i32 s.1))], [], (khp s.2 c, N), 0, 0)
def ex_op_pass_8 (B : oB) (c : Nat → Option am_C) (N : Nat) (v0 : Int) (v2 : Int) : (Sum (mR) (mR)) → (Nat → Int) → ag_St af_T := (sel (fun (e : mR) (j : Nat → Int) => ((39, [(0, .ref (obo B (j 0))), (1, .ref 12), (2, .int (i32 (j 2))), (3, .ref 31), (4, .int (i32 (j 4)))], [], (khp e c, N), 0, 0) : ag_St af_T)) (fun (e : mR) (j : Nat → Int) => ((48, [(0, .ref (obo B v0)), (1, .ref 12), (2, .int (i32 v2)), (3, .ref 31), (4, .int (i32 (j 4)))], [], (khp e c, N), 0, 0) : ag_St af_T)))
def kfl_op_pass_89 (v2 : Int) (u0 : Int) (m : mR) : Option (Int × mR) :=
  bnd (kf_ss_goalOf v2 u0 m) fun y3 =>
  some (y3, m)
theorem dg_op_pass_89 (B : oB) (w : wX) (c : Nat → Option am_C) (N D : Nat) (bb : Nat) (v2 : Int) (u0 : Int) (q2 : R32 v2) (r0 : R64 u0) (m : mR) (hm : KCo B m) (j : Nat → Int) : PP bb w D pm_181 (89, [(0, .ref (obo B (j 0))), (1, .ref 12), (2, .int (i32 v2)), (3, .ref 31), (4, .int (i32 (j 4)))], [.long (i64 u0)], (khp m c, N), 0, 0) (QS (FO1 B c N) (kfl_op_pass_89 v2 u0 m)) := by
  unfold kfl_op_pass_89
  show PP bb w D pm_181 (89, [(0, .ref (obo B (j 0))), (1, .ref 12), (2, .int (i32 v2)), (3, .ref 31), (4, .int (i32 (j 4)))], [.long (i64 u0)], (khp (mO m [] []) c, N), 0, 0) _
  refine P_sto 91 [(5, .long (i64 u0)), (0, .ref (obo B (j 0))), (1, .ref 12), (2, .int (i32 v2)), (3, .ref 31), (4, .int (i32 (j 4)))] rfl (fun _ => rfl) ?_
  refine P_ld 92 (.ref 31) rfl (fun _ => rfl) ?_
  refine P_ld 93 (.int (i32 v2)) rfl (fun _ => rfl) ?_
  refine P_ld 95 (.long (i64 u0)) rfl (fun _ => rfl) ?_
  refine P_cp1 98 185 [.ref 31, .int (i32 v2), .long (i64 u0)] [] rfl (fun _ => rfl) rfl (D_ss_goalOf B w m c N D hm v2 u0 q2 r0) (fun y3 h4 => ?_)
  exact P_ro1 rfl h4 hm
def kfl_op_pass_48 (v0 : Int) (v2 : Int) (m : mR) : Option (Int × mR) :=
  if (m.2 29) v2 = (-1) then
    kfl_op_pass_89 v2 0 m
  else
    bnd (kf_nd_valueOf_b101_b105 ((m.2 28) v2) ((m.2 29) v2) v0 v0 m) fun y7 =>
    kfl_op_pass_89 v2 y7.1 y7.2
theorem dg_op_pass_48 (B : oB) (w : wX) (c : Nat → Option am_C) (N D : Nat) (bb : Nat) (v0 : Int) (v2 : Int) (q0 : OKo B v0) (q2 : R32 v2) (m : mR) (hm : KCo B m) (j : Nat → Int) : PP bb w D pm_181 (48, [(0, .ref (obo B v0)), (1, .ref 12), (2, .int (i32 v2)), (3, .ref 31), (4, .int (i32 (j 4)))], [], (khp m c, N), 0, 0) (QS (FO1 B c N) (kfl_op_pass_48 v0 v2 m)) := by
  unfold kfl_op_pass_48
  show PP bb w D pm_181 (48, [(0, .ref (obo B v0)), (1, .ref 12), (2, .int (i32 v2)), (3, .ref 31), (4, .int (i32 (j 4)))], [], (khp (mO m [] []) c, N), 0, 0) _
  refine P_ld 49 (.ref 31) rfl (fun _ => rfl) ?_
  refine PK_gf 52 (.ref 35) rfl rfl kd_31 rfl rfl rfl ?_
  refine P_ld 53 (.int (i32 v2)) rfl (fun _ => rfl) ?_
  refine PK_iald2 54 29 (m.2 29) rfl rfl rfl q2 rfl ?_
  refine P_sto 56 [(4, .int (i32 ((m.2 29) v2))), (0, .ref (obo B v0)), (1, .ref 12), (2, .int (i32 v2)), (3, .ref 31)] rfl (fun _ => rfl) ?_
  refine P_ld 58 (.int (i32 ((m.2 29) v2))) rfl (fun _ => rfl) ?_
  refine P_ld 59 (.int (i32 (-1))) rfl (fun _ => rfl) ?_
  refine P_icE 66 62 rfl rfl rfl (kE_i (KCn_a hm.1 29) rfl _) (l32 (-1) rfl) rfl (fun h6 => ?_) (fun h6 => ?_)
  · skip
    refine P_ld 63 (.long (i64 0)) rfl (fun _ => rfl) ?_
    refine P_goto 89 rfl (fun _ => rfl) ?_
    refine P_lv (b := [(0, .ref (obo B v0)), (1, .ref 12), (2, .int (i32 v2)), (3, .ref 31), (4, .int (i32 ((m.2 29) v2)))]) rfl rfl ⟨rfl, rfl, rfl, rfl, rfl, trivial⟩ ?_
    exact dg_op_pass_89 B w c N D bb v2 0 q2 (l64 0 rfl) m hm (jk [(0, v0), (4, (m.2 29) v2)])
  · skip
    refine P_ld 67 (.ref 12) rfl (fun _ => rfl) ?_
    refine PK_gf 70 (.ref 22) rfl rfl kd_12 rfl rfl rfl ?_
    refine P_ld 71 (.ref 31) rfl (fun _ => rfl) ?_
    refine PK_gf 74 (.ref 34) rfl rfl kd_31 rfl rfl rfl ?_
    refine P_ld 75 (.int (i32 v2)) rfl (fun _ => rfl) ?_
    refine PK_iald2 76 28 (m.2 28) rfl rfl rfl q2 rfl ?_
    refine P_ld 78 (.int (i32 ((m.2 29) v2))) rfl (fun _ => rfl) ?_
    refine P_ld 79 (.ref (obo B v0)) rfl (fun _ => rfl) ?_
    refine PK_gor 82 rfl rfl (OKr_o hm rfl rfl q0) (obr_o hm rfl) rfl ?_
    refine P_ld 83 (.ref (obo B v0)) rfl (fun _ => rfl) ?_
    refine PK_gor 86 rfl rfl (OKr_o hm rfl rfl q0) (obr_o hm rfl) rfl ?_
    refine P_co2 89 183 [.ref 22, .int (i32 ((m.2 28) v2)), .int (i32 ((m.2 29) v2)), .ref (obo B v0 + (1 + 1)), .ref (obo B v0 + (5 + 1))] [] rfl (fun _ => rfl) rfl (D_nd_valueOf_b101_b105 B w m c N D hm ((m.2 28) v2) ((m.2 29) v2) v0 v0 (kE_i (KCn_a hm.1 28) rfl _) (kE_i (KCn_a hm.1 29) rfl _) q0 q0) (fun y7 h8 n9 => ?_)
    refine P_lv (b := [(0, .ref (obo B v0)), (1, .ref 12), (2, .int (i32 v2)), (3, .ref 31), (4, .int (i32 ((m.2 29) v2)))]) rfl rfl ⟨rfl, rfl, rfl, rfl, rfl, trivial⟩ ?_
    exact dg_op_pass_89 B w c N D bb v2 y7.1 q2 h8 y7.2 n9 (jk [(0, v0), (4, (m.2 29) v2)])
def kfb_op_pass_8 (v0 : Int) (v2 : Int) (s : Int × mR) : Option (Sum (Int × mR) (Sum (mR) (mR))) :=
  if (s.2.2 26) v2 ≤ s.1 then
    some (.inr (.inr s.2))
  else
    bnd (kf_op_extract v0 ((s.2.2 27) (cut ((cut (v2 * 6)) + s.1))) s.2) fun y13 =>
    if y13.1 = 0 then
      some (.inr (.inl y13.2))
    else
      some (.inl (cut (s.1 + 1), y13.2))
theorem dh_op_pass_8 (B : oB) (w : wX) (c : Nat → Option am_C) (N D : Nat) (v0 : Int) (v2 : Int) (q0 : OKo B v0) (q2 : R32 v2) (bb : Nat) (Q2 : Sum (Int × mR) (Sum (mR) (mR)) → ag_Re af_T → Prop) (H1 : ∀ s j, cs_op_pass_8 B s → PP bb w D pm_181 (hd_op_pass_8 B c N v0 v2 s j) (Q2 (.inl s))) (H2 : ∀ x j, cx_op_pass_8 B x → PP bb w D pm_181 (ex_op_pass_8 B c N v0 v2 x j) (Q2 (.inr x))) (s : Int × mR) (j : Nat → Int) (hs : cs_op_pass_8 B s) : PP (bb + 1) w D pm_181 (hd_op_pass_8 B c N v0 v2 s j) (QS Q2 (kfb_op_pass_8 v0 v2 s)) := by
  obtain ⟨g4, gm⟩ := hs
  unfold kfb_op_pass_8
  show PP (bb + 1) w D pm_181 (8, [(0, .ref (obo B v0)), (1, .ref 12), (2, .int (i32 v2)), (3, .ref 31), (4, .int (i32 s.1))], [], (khp (mO s.2 [] []) c, N), 0, 0) _
  refine P1_ld 10 (.int (i32 s.1)) rfl (fun _ => rfl) ?_
  refine P_ld 11 (.ref 31) rfl (fun _ => rfl) ?_
  refine PK_gf 14 (.ref 32) rfl rfl kd_31 rfl rfl rfl ?_
  refine P_ld 15 (.int (i32 v2)) rfl (fun _ => rfl) ?_
  refine PK_iald2 16 26 (s.2.2 26) rfl rfl rfl q2 rfl ?_
  refine P_icF 48 19 rfl rfl rfl g4 (kE_i (KCn_a gm.1 26) rfl _) rfl (fun h12 => ?_) (fun h12 => ?_)
  · skip
    refine P_some ?_
    exact H2 (.inr s.2) (jk [(4, s.1)]) gm
  · skip
    refine P_ld 20 (.ref (obo B v0)) rfl (fun _ => rfl) ?_
    refine P_ld 21 (.ref 12) rfl (fun _ => rfl) ?_
    refine P_ld 22 (.ref 31) rfl (fun _ => rfl) ?_
    refine PK_gf 25 (.ref 33) rfl rfl kd_31 rfl rfl rfl ?_
    refine P_ld 26 (.int (i32 v2)) rfl (fun _ => rfl) ?_
    refine P_ld 28 (.int (i32 6)) rfl (fun _ => rfl) ?_
    refine P_op 29 (cut (v2 * 6)) _ rfl (fun _ => rfl) o_mul ?_
    refine P_ld 31 (.int (i32 s.1)) rfl (fun _ => rfl) ?_
    refine P_op 32 (cut ((cut (v2 * 6)) + s.1)) _ rfl (fun _ => rfl) o_add ?_
    refine PK_iald2 33 27 (s.2.2 27) rfl rfl rfl cut_r rfl ?_
    refine P_co1 36 182 [.ref (obo B v0), .ref 12, .int (i32 ((s.2.2 27) (cut ((cut (v2 * 6)) + s.1))))] [] rfl (inv_vt (args := [.int (i32 ((s.2.2 27) (cut ((cut (v2 * 6)) + s.1)))), .ref 12]) (khp_oo gm rfl rfl q0) rfl rfl rfl) rfl (D_op_extract B w s.2 c N D gm v0 ((s.2.2 27) (cut ((cut (v2 * 6)) + s.1))) q0 (kE_i (KCn_a gm.1 27) rfl _)) (fun y13 h14 n15 => ?_)
    refine P_ifE 42 39 rfl rfl rfl h14 rfl (fun h16 => ?_) (fun h16 => ?_)
    · skip
      refine P_some ?_
      exact H2 (.inl y13.2) (jk [(0, v0), (2, v2), (4, s.1)]) n15
    · skip
      refine P_inc 45 [(4, .int (i32 (cut (s.1 + 1)))), (0, .ref (obo B v0)), (1, .ref 12), (2, .int (i32 v2)), (3, .ref 31)] rfl rfl (by decide) rfl rfl ?_
      refine P_goto 8 rfl (fun _ => rfl) ?_
      refine P_some ?_
      refine P_lv (b := [(0, .ref (obo B v0)), (1, .ref 12), (2, .int (i32 v2)), (3, .ref 31), (4, .int (i32 (cut (s.1 + 1))))]) rfl rfl ⟨rfl, rfl, rfl, rfl, rfl, trivial⟩ ?_
      exact H1 (cut (s.1 + 1), y13.2) (jk []) ⟨cut_r, n15⟩
def kf_op_pass (v0 : Int) (v2 : Int) (m : mR) : Option (Int × mR) :=
  bnd (whl (kfb_op_pass_8 v0 v2) (0, m)) (sel
    (fun e17 : mR =>
      some (17, e17))
    (fun e20 : mR =>
      kfl_op_pass_48 v0 v2 e20))
theorem D_op_pass (B : oB) (w : wX) (m : mR) (c : Nat → Option am_C) (N D : Nat) (hm : KCo B m) (v0 : Int) (v2 : Int) (q0 : OKo B v0) (q2 : R32 v2) : PC w D 181 [.ref (obo B v0), .ref 12, .int (i32 v2)] (khp m c, N) (QS (FO1 B c N) (kf_op_pass v0 v2 m)) := by
  refine Pc_of (fun D bb => ?_) D
  unfold kf_op_pass
  show PP bb w D pm_181 (0, [(0, .ref (obo B v0)), (1, .ref 12), (2, .int (i32 v2))], [], (khp (mO m [] []) c, N), 0, 0) _
  refine P_ld 1 (.ref 12) rfl (fun _ => rfl) ?_
  refine PK_gf 4 (.ref 31) rfl rfl kd_12 rfl rfl rfl ?_
  refine P_sto 5 [(3, .ref 31), (0, .ref (obo B v0)), (1, .ref 12), (2, .int (i32 v2))] rfl (fun _ => rfl) ?_
  refine P_ld 6 (.int (i32 0)) rfl (fun _ => rfl) ?_
  refine P_sto 8 [(4, .int (i32 0)), (3, .ref 31), (0, .ref (obo B v0)), (1, .ref 12), (2, .int (i32 v2))] rfl (fun _ => rfl) ?_
  refine P_lv (b := [(0, .ref (obo B v0)), (1, .ref 12), (2, .int (i32 v2)), (3, .ref 31), (4, .int (i32 0))]) rfl rfl ⟨rfl, rfl, rfl, rfl, rfl, trivial⟩ ?_
  refine P_bnd ?_
  refine P_whl (fun bb Q2 H1 H2 s9 j9 hs9 => dh_op_pass_8 B w c N D v0 v2 q0 q2 bb Q2 H1 H2 s9 j9 hs9) bb (fun x0 j hx0 => ?_) (0, m) (jk []) ⟨(l32 0 rfl), hm⟩
  cases x0 with
  | inl e17 =>
    have q18 := hx0
    have q19 := q18
    show PP bb w D pm_181 (39, [(0, .ref (obo B (j 0))), (1, .ref 12), (2, .int (i32 (j 2))), (3, .ref 31), (4, .int (i32 (j 4)))], [], (khp (mO e17 [] []) c, N), 0, 0) (QS _ (some (17, e17)))
    refine P_ld 41 (.int (i32 17)) rfl (fun _ => rfl) ?_
    exact P_ro1 rfl (l32 17 rfl) q19
  | inr e20 =>
    have q21 := hx0
    have q22 := q21
    show PP bb w D pm_181 (48, [(0, .ref (obo B v0)), (1, .ref 12), (2, .int (i32 v2)), (3, .ref 31), (4, .int (i32 (j 4)))], [], (khp (mO e20 [] []) c, N), 0, 0) (QS _ (kfl_op_pass_48 v0 v2 e20))
    exact dg_op_pass_48 B w c N D bb v0 v2 q0 q2 e20 q22 (jk [(4, j 4)])
def cs_op_enter_83 (B : oB) (s : Int × Int × mR) : Prop := R32 s.1 ∧ R32 s.2.1 ∧ KCo B s.2.2
def cx_op_enter_83 (B : oB) : (Int × mR) → Prop := (fun (e : Int × mR) => R32 e.1 ∧ KCo B e.2)
def hd_op_enter_83 (B : oB) (c : Nat → Option am_C) (N : Nat) (v0 : Int) (s : Int × Int × mR) (j : Nat → Int) : ag_St af_T := (83, [(0, .ref (obo B v0)), (1, .ref 12), (2, .int (i32 s.1)), (3, .int (i32 s.2.1))], [], (khp s.2.2 c, N), 0, 0)
def ex_op_enter_83 (B : oB) (c : Nat → Option am_C) (N : Nat) (v0 : Int) : (Int × mR) → (Nat → Int) → ag_St af_T := (fun (e : Int × mR) (j : Nat → Int) => ((109, [(0, .ref (obo B v0)), (1, .ref 12), (2, .int (i32 e.1)), (3, .int (i32 (j 3)))], [], (khp e.2 c, N), 0, 0) : ag_St af_T))
def kfl_op_enter_121 (u0 : Int) (u1 : Int) (m : mR) : Option (Int × mR) :=
  some (0, (mO m [] [(98, upI (m.2 98) u0 u1)]))
theorem dg_op_enter_121 (B : oB) (w : wX) (c : Nat → Option am_C) (N D : Nat) (bb : Nat) (u0 : Int) (u1 : Int) (r0 : OKo B u0) (r1 : R32 u1) (m : mR) (hm : KCo B m) (j : Nat → Int) : PP bb w D pm_180 (121, [(0, .ref (obo B (j 0))), (1, .ref 12), (2, .int (i32 (j 2))), (3, .int (i32 (j 3)))], [.int (i32 u1), .ref (obo B u0)], (khp m c, N), 0, 0) (QS (FO0 B c N) (kfl_op_enter_121 u0 u1 m)) := by
  unfold kfl_op_enter_121
  show PP bb w D pm_180 (121, [(0, .ref (obo B (j 0))), (1, .ref 12), (2, .int (i32 (j 2))), (3, .int (i32 (j 3)))], [.int (i32 u1), .ref (obo B u0)], (khp (mO m [] []) c, N), 0, 0) _
  refine PK_poi (a' := [(98, upI (m.2 98) u0 u1)]) 124 98 (m.2 98) rfl rfl rfl (OKr_o hm rfl rfl r0) (OWu_o hm rfl rfl) (obr_o hm rfl) rfl rfl rfl ?_
  exact P_ro0 rfl rfl (KCo_mO hm rfl rfl (KC6 hm rfl) trivial ⟨(kE_ui (KCn_a hm.1 98) rfl r1), trivial⟩)
def kfl_op_enter_109 (v0 : Int) (v2 : Int) (m : mR) : Option (Int × mR) :=
  if v2 = 16 then
    kfl_op_enter_121 v0 0 m
  else
    kfl_op_enter_121 v0 2 m
theorem dg_op_enter_109 (B : oB) (w : wX) (c : Nat → Option am_C) (N D : Nat) (bb : Nat) (v0 : Int) (v2 : Int) (q0 : OKo B v0) (q2 : R32 v2) (m : mR) (hm : KCo B m) (j : Nat → Int) : PP bb w D pm_180 (109, [(0, .ref (obo B v0)), (1, .ref 12), (2, .int (i32 v2)), (3, .int (i32 (j 3)))], [], (khp m c, N), 0, 0) (QS (FO0 B c N) (kfl_op_enter_109 v0 v2 m)) := by
  unfold kfl_op_enter_109
  show PP bb w D pm_180 (109, [(0, .ref (obo B v0)), (1, .ref 12), (2, .int (i32 v2)), (3, .int (i32 (j 3)))], [], (khp (mO m [] []) c, N), 0, 0) _
  refine P_ld 110 (.ref (obo B v0)) rfl (fun _ => rfl) ?_
  refine P_ld 111 (.int (i32 v2)) rfl (fun _ => rfl) ?_
  refine P_ld 113 (.int (i32 16)) rfl (fun _ => rfl) ?_
  refine P_icE 120 116 rfl rfl rfl q2 (l32 16 rfl) rfl (fun h3 => ?_) (fun h3 => ?_)
  · skip
    refine P_ld 117 (.int (i32 0)) rfl (fun _ => rfl) ?_
    refine P_goto 121 rfl (fun _ => rfl) ?_
    exact dg_op_enter_121 B w c N D bb v0 0 q0 (l32 0 rfl) m hm (jk [(0, v0), (2, v2), (3, j 3)])
  · skip
    refine P_ld 121 (.int (i32 2)) rfl (fun _ => rfl) ?_
    exact dg_op_enter_121 B w c N D bb v0 2 q0 (l32 2 rfl) m hm (jk [(0, v0), (2, v2), (3, j 3)])
def kfb_op_enter_83 (v0 : Int) (s : Int × Int × mR) : Option (Sum (Int × Int × mR) (Int × mR)) :=
  if (238 : Int) ≤ s.2.1 then
    some (.inr (s.1, s.2.2))
  else
    if (16 : Int) ≤ s.1 then
      some (.inr (s.1, s.2.2))
    else
      bnd (kf_op_pass v0 s.1 s.2.2) fun y8 =>
      some (.inl (y8.1, cut (s.2.1 + 1), y8.2))
theorem dh_op_enter_83 (B : oB) (w : wX) (c : Nat → Option am_C) (N D : Nat) (v0 : Int) (q0 : OKo B v0) (bb : Nat) (Q2 : Sum (Int × Int × mR) (Int × mR) → ag_Re af_T → Prop) (H1 : ∀ s j, cs_op_enter_83 B s → PP bb w D pm_180 (hd_op_enter_83 B c N v0 s j) (Q2 (.inl s))) (H2 : ∀ x j, cx_op_enter_83 B x → PP bb w D pm_180 (ex_op_enter_83 B c N v0 x j) (Q2 (.inr x))) (s : Int × Int × mR) (j : Nat → Int) (hs : cs_op_enter_83 B s) : PP (bb + 1) w D pm_180 (hd_op_enter_83 B c N v0 s j) (QS Q2 (kfb_op_enter_83 v0 s)) := by
  obtain ⟨g2, g3, gm⟩ := hs
  unfold kfb_op_enter_83
  show PP (bb + 1) w D pm_180 (83, [(0, .ref (obo B v0)), (1, .ref 12), (2, .int (i32 s.1)), (3, .int (i32 s.2.1))], [], (khp (mO s.2.2 [] []) c, N), 0, 0) _
  refine P1_ld 84 (.int (i32 s.2.1)) rfl (fun _ => rfl) ?_
  refine P_ld 87 (.int (i32 238)) rfl (fun _ => rfl) ?_
  refine P_icF 109 90 rfl rfl rfl g3 (l32 238 rfl) rfl (fun h6 => ?_) (fun h6 => ?_)
  · skip
    refine P_some ?_
    exact H2 (s.1, s.2.2) (jk [(3, s.2.1)]) ⟨g2, gm⟩
  · skip
    refine P_ld 91 (.int (i32 s.1)) rfl (fun _ => rfl) ?_
    refine P_ld 93 (.int (i32 16)) rfl (fun _ => rfl) ?_
    refine P_icF 109 96 rfl rfl rfl g2 (l32 16 rfl) rfl (fun h7 => ?_) (fun h7 => ?_)
    · skip
      refine P_some ?_
      exact H2 (s.1, s.2.2) (jk [(3, s.2.1)]) ⟨g2, gm⟩
    · skip
      refine P_ld 97 (.ref (obo B v0)) rfl (fun _ => rfl) ?_
      refine P_ld 98 (.ref 12) rfl (fun _ => rfl) ?_
      refine P_ld 99 (.int (i32 s.1)) rfl (fun _ => rfl) ?_
      refine P_co1 102 181 [.ref (obo B v0), .ref 12, .int (i32 s.1)] [] rfl (inv_vt (args := [.int (i32 s.1), .ref 12]) (khp_oo gm rfl rfl q0) rfl rfl rfl) rfl (D_op_pass B w s.2.2 c N D gm v0 s.1 q0 g2) (fun y8 h9 n10 => ?_)
      refine P_sto 103 [(2, .int (i32 y8.1)), (0, .ref (obo B v0)), (1, .ref 12), (3, .int (i32 s.2.1))] rfl (fun _ => rfl) ?_
      refine P_inc 106 [(3, .int (i32 (cut (s.2.1 + 1)))), (2, .int (i32 y8.1)), (0, .ref (obo B v0)), (1, .ref 12)] rfl rfl (by decide) rfl rfl ?_
      refine P_goto 83 rfl (fun _ => rfl) ?_
      refine P_some ?_
      refine P_lv (b := [(0, .ref (obo B v0)), (1, .ref 12), (2, .int (i32 y8.1)), (3, .int (i32 (cut (s.2.1 + 1))))]) rfl rfl ⟨rfl, rfl, rfl, rfl, trivial⟩ ?_
      exact H1 (y8.1, cut (s.2.1 + 1), y8.2) (jk []) ⟨h9, cut_r, n10⟩
def kfl_op_enter_80 (v0 : Int) (u0 : Int) (m : mR) : Option (Int × mR) :=
  bnd (whl (kfb_op_enter_83 v0) (u0, 0, m)) (fun e11 : Int × mR =>
    kfl_op_enter_109 v0 e11.1 e11.2)
theorem dg_op_enter_80 (B : oB) (w : wX) (c : Nat → Option am_C) (N D : Nat) (bb : Nat) (v0 : Int) (u0 : Int) (q0 : OKo B v0) (r0 : R32 u0) (m : mR) (hm : KCo B m) (j : Nat → Int) : PP bb w D pm_180 (80, [(0, .ref (obo B v0)), (1, .ref 12)], [.int (i32 u0)], (khp m c, N), 0, 0) (QS (FO0 B c N) (kfl_op_enter_80 v0 u0 m)) := by
  unfold kfl_op_enter_80
  show PP bb w D pm_180 (80, [(0, .ref (obo B v0)), (1, .ref 12)], [.int (i32 u0)], (khp (mO m [] []) c, N), 0, 0) _
  refine P_sto 81 [(2, .int (i32 u0)), (0, .ref (obo B v0)), (1, .ref 12)] rfl (fun _ => rfl) ?_
  refine P_ld 82 (.int (i32 0)) rfl (fun _ => rfl) ?_
  refine P_sto 83 [(3, .int (i32 0)), (2, .int (i32 u0)), (0, .ref (obo B v0)), (1, .ref 12)] rfl (fun _ => rfl) ?_
  refine P_lv (b := [(0, .ref (obo B v0)), (1, .ref 12), (2, .int (i32 u0)), (3, .int (i32 0))]) rfl rfl ⟨rfl, rfl, rfl, rfl, trivial⟩ ?_
  refine P_bnd ?_
  refine P_whl (fun bb Q2 H1 H2 s9 j9 hs9 => dh_op_enter_83 B w c N D v0 q0 bb Q2 H1 H2 s9 j9 hs9) bb (fun e11 j q12 => ?_) (u0, 0, m) (jk []) ⟨r0, (l32 0 rfl), hm⟩
  obtain ⟨q13, q14⟩ := q12
  show PP bb w D pm_180 (109, [(0, .ref (obo B v0)), (1, .ref 12), (2, .int (i32 e11.1)), (3, .int (i32 (j 3)))], [], (khp (mO e11.2 [] []) c, N), 0, 0) (QS _ (kfl_op_enter_109 v0 e11.1 e11.2))
  exact dg_op_enter_109 B w c N D bb v0 e11.1 q0 q13 e11.2 q14 (jk [(3, j 3)])
def kf_op_enter (v0 : Int) (m : mR) : Option (Int × mR) :=
  if (m.2 91) v0 = 0 then
    bnd (kf_Arrays_fill1_b101 v0 0 (mO m [] [(98, upI (m.2 98) v0 0)])) fun y16 =>
    bnd (kf_Arrays_fill0_b102 v0 (-1) y16.2) fun y19 =>
    if y19.2.1 221 ≤ 0 then
      kfl_op_enter_80 v0 16 (mO y19.2 [] [(94, upI (y19.2.2 94) v0 0), (101, upI (upI (y19.2.2 101) (65536 * v0 + 204) (and64 ((y19.2.2 93) v0) 65535)) (65536 * v0 + 205) ((y19.2.2 92) v0))])
    else
      kfl_op_enter_80 v0 0 (mO y19.2 [] [(94, upI (y19.2.2 94) v0 0), (101, upI (upI (y19.2.2 101) (65536 * v0 + 204) (and64 ((y19.2.2 93) v0) 65535)) (65536 * v0 + 205) ((y19.2.2 92) v0))])
  else
    some (0, (mO m [] [(98, upI (m.2 98) v0 0)]))
theorem D_op_enter (B : oB) (w : wX) (m : mR) (c : Nat → Option am_C) (N D : Nat) (hm : KCo B m) (v0 : Int) (q0 : OKo B v0) : PC w D 180 [.ref (obo B v0), .ref 12] (khp m c, N) (QS (FO0 B c N) (kf_op_enter v0 m)) := by
  refine Pc_of (fun D bb => ?_) D
  unfold kf_op_enter
  show PP bb w D pm_180 (0, [(0, .ref (obo B v0)), (1, .ref 12)], [], (khp (mO m [] []) c, N), 0, 0) _
  refine P_ld 1 (.ref (obo B v0)) rfl (fun _ => rfl) ?_
  refine P_ld 2 (.int (i32 0)) rfl (fun _ => rfl) ?_
  refine PK_poi (a' := [(98, upI (m.2 98) v0 0)]) 5 98 (m.2 98) rfl rfl rfl (OKr_o hm rfl rfl q0) (OWu_o hm rfl rfl) (obr_o hm rfl) rfl rfl rfl ?_
  refine P_ld 6 (.ref (obo B v0)) rfl (fun _ => rfl) ?_
  refine PK_goi 9 91 (m.2 91) rfl rfl (OKr_o hm rfl rfl q0) (obr_o hm rfl) rfl rfl ?_
  refine P_ifF 13 12 rfl rfl rfl (kE_i (KCn_a hm.1 91) rfl _) rfl (fun h15 => ?_) (fun h15 => ?_)
  · skip
    refine P_ld 14 (.ref (obo B v0)) rfl (fun _ => rfl) ?_
    refine PK_gor 17 rfl rfl (OKr_o hm rfl rfl q0) (obr_o hm rfl) rfl ?_
    refine P_ld 18 (.long (i64 0)) rfl (fun _ => rfl) ?_
    refine P_co0 21 46 [.ref (obo B v0 + (1 + 1)), .long (i64 0)] [] rfl (fun _ => rfl) rfl (D_Arrays_fill1_b101 B w (mO m [] [(98, upI (m.2 98) v0 0)]) c N D (KCo_mO hm rfl rfl (KC6 hm rfl) trivial ⟨(kE_ui (KCn_a hm.1 98) rfl (l32 0 rfl)), trivial⟩) v0 0 q0 (l64 0 rfl)) (fun y16 n18 => ?_)
    refine P_ld 22 (.ref (obo B v0)) rfl (fun _ => rfl) ?_
    refine PK_gor 25 rfl rfl (OKr_o n18 rfl rfl q0) (obr_o n18 rfl) rfl ?_
    refine P_ld 26 (.int (i32 (-1))) rfl (fun _ => rfl) ?_
    refine P_co0 29 25 [.ref (obo B v0 + (2 + 1)), .int (i32 (-1))] [] rfl (fun _ => rfl) rfl (D_Arrays_fill0_b102 B w y16.2 c N D n18 v0 (-1) q0 (l32 (-1) rfl)) (fun y19 n21 => ?_)
    refine P_ld 30 (.ref (obo B v0)) rfl (fun _ => rfl) ?_
    refine PK_gor 33 rfl rfl (OKr_o n21 rfl rfl q0) (obr_o n21 rfl) rfl ?_
    refine P_ld 36 (.int (i32 204)) rfl (fun _ => rfl) ?_
    refine P_ld 37 (.ref (obo B v0)) rfl (fun _ => rfl) ?_
    refine PK_goi 40 93 (y19.2.2 93) rfl rfl (OKr_o n21 rfl rfl q0) (obr_o n21 rfl) rfl rfl ?_
    refine P_opl 41 ((y19.2.2 93) v0) _ rfl (fun _ => rfl) (o_i2l (kE_i (KCn_a n21.1 93) rfl _)) ?_
    refine P_ld 44 (.long (i64 65535)) rfl (fun _ => rfl) ?_
    refine P_opl 45 (and64 ((y19.2.2 93) v0) 65535) _ rfl (fun _ => rfl) (Int64.ofInt_toInt _).symm ?_
    refine PK_lasto2 (a' := [(101, upI (y19.2.2 101) (65536 * v0 + 204) (and64 ((y19.2.2 93) v0) 65535))]) 46 1 (y19.2.2 101) rfl rfl rfl n21 rfl rfl q0 (l32 204 rfl) rfl rfl ?_
    refine P_ld 47 (.ref (obo B v0)) rfl (fun _ => rfl) ?_
    refine PK_gor 50 rfl rfl (OKr_o n21 rfl rfl q0) (obr_o n21 rfl) rfl ?_
    refine P_ld 53 (.int (i32 205)) rfl (fun _ => rfl) ?_
    refine P_ld 54 (.ref (obo B v0)) rfl (fun _ => rfl) ?_
    refine PK_goi 57 92 (y19.2.2 92) rfl rfl (OKr_o n21 rfl rfl q0) (obr_o n21 rfl) rfl rfl ?_
    refine P_opl 58 ((y19.2.2 92) v0) _ rfl (fun _ => rfl) (o_i2l (kE_i (KCn_a n21.1 92) rfl _)) ?_
    refine PK_lasto2 (a' := [(101, upI (upI (y19.2.2 101) (65536 * v0 + 204) (and64 ((y19.2.2 93) v0) 65535)) (65536 * v0 + 205) ((y19.2.2 92) v0))]) 59 1 (upI (y19.2.2 101) (65536 * v0 + 204) (and64 ((y19.2.2 93) v0) 65535)) rfl rfl rfl n21 rfl rfl q0 (l32 205 rfl) rfl rfl ?_
    refine P_ld 60 (.ref (obo B v0)) rfl (fun _ => rfl) ?_
    refine P_ld 61 (.int (i32 0)) rfl (fun _ => rfl) ?_
    refine PK_poi (a' := [(94, upI (y19.2.2 94) v0 0), (101, upI (upI (y19.2.2 101) (65536 * v0 + 204) (and64 ((y19.2.2 93) v0) 65535)) (65536 * v0 + 205) ((y19.2.2 92) v0))]) 64 94 (y19.2.2 94) rfl rfl rfl (OKr_o n21 rfl rfl q0) (OWu_o n21 rfl rfl) (obr_o n21 rfl) rfl rfl rfl ?_
    refine P_ld 65 (.ref 12) rfl (fun _ => rfl) ?_
    refine PK_gf 68 (.ref 31) rfl rfl kd_12 rfl rfl rfl ?_
    refine PK_gf 71 (.int (i32 (y19.2.1 221))) rfl rfl kd_31 rfl rfl rfl ?_
    refine P_ifF 78 74 rfl rfl rfl (KCn_i n21.1 221 rfl) rfl (fun h22 => ?_) (fun h22 => ?_)
    · skip
      refine P_ld 80 (.int (i32 16)) rfl (fun _ => rfl) ?_
      exact dg_op_enter_80 B w c N D bb v0 16 q0 (l32 16 rfl) (mO y19.2 [] [(94, upI (y19.2.2 94) v0 0), (101, upI (upI (y19.2.2 101) (65536 * v0 + 204) (and64 ((y19.2.2 93) v0) 65535)) (65536 * v0 + 205) ((y19.2.2 92) v0))]) (KCo_mO n21 rfl rfl (KC6 n21 rfl) trivial ⟨(kE_ui (KCn_a n21.1 94) rfl (l32 0 rfl)), (kE_ul (kE_ul (KCn_a n21.1 101) rfl t64_r) rfl (R32_64 (kE_i (KCn_a n21.1 92) rfl _))), trivial⟩) (jk [])
    · skip
      refine P_ld 75 (.int (i32 0)) rfl (fun _ => rfl) ?_
      refine P_goto 80 rfl (fun _ => rfl) ?_
      exact dg_op_enter_80 B w c N D bb v0 0 q0 (l32 0 rfl) (mO y19.2 [] [(94, upI (y19.2.2 94) v0 0), (101, upI (upI (y19.2.2 101) (65536 * v0 + 204) (and64 ((y19.2.2 93) v0) 65535)) (65536 * v0 + 205) ((y19.2.2 92) v0))]) (KCo_mO n21 rfl rfl (KC6 n21 rfl) trivial ⟨(kE_ui (KCn_a n21.1 94) rfl (l32 0 rfl)), (kE_ul (kE_ul (KCn_a n21.1 101) rfl t64_r) rfl (R32_64 (kE_i (KCn_a n21.1 92) rfl _))), trivial⟩) (jk [])
  · skip
    exact P_ro0 rfl rfl (KCo_mO hm rfl rfl (KC6 hm rfl) trivial ⟨(kE_ui (KCn_a hm.1 98) rfl (l32 0 rfl)), trivial⟩)
def cs_op_write_12 (B : oB) (s : Int × Int × mR) : Prop := R32 s.1 ∧ R32 s.2.1 ∧ KCo B s.2.2
def cx_op_write_12 (B : oB) : (Int × mR) → Prop := (fun (e : Int × mR) => R32 e.1 ∧ KCo B e.2)
def hd_op_write_12 (B : oB) (c : Nat → Option am_C) (N : Nat) (v0 : Int) (v2 : Int) (v4 : Int) (s : Int × Int × mR) (j : Nat → Int) : ag_St af_T := (12, [(0, .ref (obo B v0)), (1, .ref 12), (2, .int (i32 v2)), (3, .int (i32 (j 3))), (4, .int (i32 v4)), (5, .int (i32 s.1)), (6, .int (i32 s.2.1)), (7, .int (i32 (j 7))), (8, .int (i32 (j 8)))], [], (khp s.2.2 c, N), 0, 0)
def ex_op_write_12 (B : oB) (c : Nat → Option am_C) (N : Nat) (v0 : Int) (v2 : Int) (v4 : Int) : (Int × mR) → (Nat → Int) → ag_St af_T := (fun (e : Int × mR) (j : Nat → Int) => ((108, [(0, .ref (obo B (j 0))), (1, .ref 12), (2, .int (i32 (j 2))), (3, .int (i32 (j 3))), (4, .int (i32 (j 4))), (5, .int (i32 e.1)), (6, .int (i32 (j 6))), (7, .int (i32 (j 7))), (8, .int (i32 (j 8)))], [], (khp e.2 c, N), 0, 0) : ag_St af_T))
def cs_op_write_46 (B : oB) (s : Int × Int × mR) : Prop := R32 s.1 ∧ R32 s.2.1 ∧ KCo B s.2.2
def cx_op_write_46 (B : oB) : (Int × mR) → Prop := (fun (e : Int × mR) => R32 e.1 ∧ KCo B e.2)
def hd_op_write_46 (B : oB) (c : Nat → Option am_C) (N : Nat) (v0 : Int) (v2 : Int) (v4 : Int) (v6 : Int) (s : Int × Int × mR) (j : Nat → Int) : ag_St af_T := (46, [(0, .ref (obo B v0)), (1, .ref 12), (2, .int (i32 v2)), (3, .int (i32 (j 3))), (4, .int (i32 v4)), (5, .int (i32 s.1)), (6, .int (i32 v6)), (7, .int (i32 (j 7))), (8, .int (i32 s.2.1))], [], (khp s.2.2 c, N), 0, 0)
def ex_op_write_46 (B : oB) (c : Nat → Option am_C) (N : Nat) (v0 : Int) (v2 : Int) (v4 : Int) (v6 : Int) : (Int × mR) → (Nat → Int) → ag_St af_T := (fun (e : Int × mR) (j : Nat → Int) => ((102, [(0, .ref (obo B v0)), (1, .ref 12), (2, .int (i32 v2)), (3, .int (i32 (j 3))), (4, .int (i32 v4)), (5, .int (i32 e.1)), (6, .int (i32 v6)), (7, .int (i32 (j 7))), (8, .int (i32 (j 8)))], [], (khp e.2 c, N), 0, 0) : ag_St af_T))
def kfl_op_write_102 (v0 : Int) (v2 : Int) (v4 : Int) (v5 : Int) (v6 : Int) (m : mR) : Option (Sum (Int × Int × mR) (Int × mR)) :=
  some (.inl (v5, cut (v6 + 1), m))
theorem dg_op_write_102 (B : oB) (w : wX) (c : Nat → Option am_C) (N D : Nat) (bb : Nat) (v0 : Int) (v2 : Int) (v4 : Int) (v5 : Int) (v6 : Int) (q0 : OKo B v0) (q2 : R32 v2) (q4 : R32 v4) (q5 : R32 v5) (q6 : R32 v6) (m : mR) (hm : KCo B m) (j : Nat → Int) (Q2 : Sum (Int × Int × mR) (Int × mR) → ag_Re af_T → Prop) (H1 : ∀ s j, cs_op_write_12 B s → PP bb w D pm_179 (hd_op_write_12 B c N v0 v2 v4 s j) (Q2 (.inl s))) (H2 : ∀ x j, cx_op_write_12 B x → PP bb w D pm_179 (ex_op_write_12 B c N v0 v2 v4 x j) (Q2 (.inr x))) : PP bb w D pm_179 (102, [(0, .ref (obo B v0)), (1, .ref 12), (2, .int (i32 v2)), (3, .int (i32 (j 3))), (4, .int (i32 v4)), (5, .int (i32 v5)), (6, .int (i32 v6)), (7, .int (i32 (j 7))), (8, .int (i32 (j 8)))], [], (khp m c, N), 0, 0) (QS Q2 (kfl_op_write_102 v0 v2 v4 v5 v6 m)) := by
  unfold kfl_op_write_102
  show PP bb w D pm_179 (102, [(0, .ref (obo B v0)), (1, .ref 12), (2, .int (i32 v2)), (3, .int (i32 (j 3))), (4, .int (i32 v4)), (5, .int (i32 v5)), (6, .int (i32 v6)), (7, .int (i32 (j 7))), (8, .int (i32 (j 8)))], [], (khp (mO m [] []) c, N), 0, 0) _
  refine P_inc 105 [(6, .int (i32 (cut (v6 + 1)))), (0, .ref (obo B v0)), (1, .ref 12), (2, .int (i32 v2)), (3, .int (i32 (j 3))), (4, .int (i32 v4)), (5, .int (i32 v5)), (7, .int (i32 (j 7))), (8, .int (i32 (j 8)))] rfl rfl (by decide) rfl rfl ?_
  refine P_goto 12 rfl (fun _ => rfl) ?_
  refine P_some ?_
  refine P_lv (b := [(0, .ref (obo B v0)), (1, .ref 12), (2, .int (i32 v2)), (3, .int (i32 (j 3))), (4, .int (i32 v4)), (5, .int (i32 v5)), (6, .int (i32 (cut (v6 + 1)))), (7, .int (i32 (j 7))), (8, .int (i32 (j 8)))]) rfl rfl ⟨rfl, rfl, rfl, rfl, rfl, rfl, rfl, rfl, rfl, trivial⟩ ?_
  exact H1 (v5, cut (v6 + 1), m) (jk [(3, j 3), (7, j 7), (8, j 8)]) ⟨q5, cut_r, hm⟩
def kfb_op_write_46 (v0 : Int) (v2 : Int) (v4 : Int) (v6 : Int) (s : Int × Int × mR) : Option (Sum (Int × Int × mR) (Int × mR)) :=
  if s.2.1 < 0 then
    some (.inr (s.1, s.2.2))
  else
    some (.inl (cut (s.1 + 1), cut (s.2.1 + (-1)), (mO s.2.2 [] [(100, upI (s.2.2.2 100) (65536 * v0 + (s.1.tdiv 8)) (nar2 (i2b32 (or32 ((s.2.2.2 100) (65536 * v0 + (s.1.tdiv 8))) (i2b32 (cut (shl64 (and64 (ushr64 ((s.2.2.2 101) (65536 * v0 + (cut ((cut (v4 + 1)) + v6)))) s.2.1) 1) (cut (7 - (s.1.tmod 8))))))))))])))
theorem dh_op_write_46 (B : oB) (w : wX) (c : Nat → Option am_C) (N D : Nat) (v0 : Int) (v2 : Int) (v4 : Int) (v6 : Int) (q0 : OKo B v0) (q2 : R32 v2) (q4 : R32 v4) (q6 : R32 v6) (bb : Nat) (Q2 : Sum (Int × Int × mR) (Int × mR) → ag_Re af_T → Prop) (H1 : ∀ s j, cs_op_write_46 B s → PP bb w D pm_179 (hd_op_write_46 B c N v0 v2 v4 v6 s j) (Q2 (.inl s))) (H2 : ∀ x j, cx_op_write_46 B x → PP bb w D pm_179 (ex_op_write_46 B c N v0 v2 v4 v6 x j) (Q2 (.inr x))) (s : Int × Int × mR) (j : Nat → Int) (hs : cs_op_write_46 B s) : PP (bb + 1) w D pm_179 (hd_op_write_46 B c N v0 v2 v4 v6 s j) (QS Q2 (kfb_op_write_46 v0 v2 v4 v6 s)) := by
  obtain ⟨g5, g8, gm⟩ := hs
  unfold kfb_op_write_46
  show PP (bb + 1) w D pm_179 (46, [(0, .ref (obo B v0)), (1, .ref 12), (2, .int (i32 v2)), (3, .int (i32 (j 3))), (4, .int (i32 v4)), (5, .int (i32 s.1)), (6, .int (i32 v6)), (7, .int (i32 (j 7))), (8, .int (i32 s.2.1))], [], (khp (mO s.2.2 [] []) c, N), 0, 0) _
  refine P1_ld 48 (.int (i32 s.2.1)) rfl (fun _ => rfl) ?_
  refine P_ifF 102 51 rfl rfl rfl g8 rfl (fun h7 => ?_) (fun h7 => ?_)
  · skip
    refine P_some ?_
    exact H2 (s.1, s.2.2) (jk [(3, j 3), (7, j 7), (8, s.2.1)]) ⟨g5, gm⟩
  · skip
    refine P_ld 52 (.ref (obo B v0)) rfl (fun _ => rfl) ?_
    refine PK_gor 55 rfl rfl (OKr_o gm rfl rfl q0) (obr_o gm rfl) rfl ?_
    refine P_ld 57 (.int (i32 s.1)) rfl (fun _ => rfl) ?_
    refine P_ld 59 (.int (i32 8)) rfl (fun _ => rfl) ?_
    refine P_div 60 rfl rfl g5 (by decide) (by decide) ?_
    refine P_dup2 61 rfl (fun _ => rfl) ?_
    refine PK_balo2 62 0 (s.2.2.2 100) rfl rfl rfl gm rfl rfl q0 (tdiv_r g5 (by decide)) rfl ?_
    refine P_ld 63 (.ref (obo B v0)) rfl (fun _ => rfl) ?_
    refine PK_gor 66 rfl rfl (OKr_o gm rfl rfl q0) (obr_o gm rfl) rfl ?_
    refine P_ld 68 (.int (i32 v4)) rfl (fun _ => rfl) ?_
    refine P_ld 69 (.int (i32 1)) rfl (fun _ => rfl) ?_
    refine P_op 70 (cut (v4 + 1)) _ rfl (fun _ => rfl) o_add ?_
    refine P_ld 72 (.int (i32 v6)) rfl (fun _ => rfl) ?_
    refine P_op 73 (cut ((cut (v4 + 1)) + v6)) _ rfl (fun _ => rfl) o_add ?_
    refine PK_lalo2 74 1 (s.2.2.2 101) rfl rfl rfl gm rfl rfl q0 cut_r rfl ?_
    refine P_ld 76 (.int (i32 s.2.1)) rfl (fun _ => rfl) ?_
    refine P_opl 77 (ushr64 ((s.2.2.2 101) (65536 * v0 + (cut ((cut (v4 + 1)) + v6)))) s.2.1) _ rfl (fun _ => rfl) (Int64.ofInt_toInt _).symm ?_
    refine P_ld 78 (.long (i64 1)) rfl (fun _ => rfl) ?_
    refine P_opl 79 (and64 (ushr64 ((s.2.2.2 101) (65536 * v0 + (cut ((cut (v4 + 1)) + v6)))) s.2.1) 1) _ rfl (fun _ => rfl) (Int64.ofInt_toInt _).symm ?_
    refine P_ld 81 (.int (i32 7)) rfl (fun _ => rfl) ?_
    refine P_ld 83 (.int (i32 s.1)) rfl (fun _ => rfl) ?_
    refine P_ld 85 (.int (i32 8)) rfl (fun _ => rfl) ?_
    refine P_rem 86 rfl rfl g5 (by decide) (by decide) ?_
    refine P_op 87 (cut (7 - (s.1.tmod 8))) _ rfl (fun _ => rfl) o_sub ?_
    refine P_opl 88 (shl64 (and64 (ushr64 ((s.2.2.2 101) (65536 * v0 + (cut ((cut (v4 + 1)) + v6)))) s.2.1) 1) (cut (7 - (s.1.tmod 8)))) _ rfl (fun _ => rfl) (Int64.ofInt_toInt _).symm ?_
    refine P_op 89 (cut (shl64 (and64 (ushr64 ((s.2.2.2 101) (65536 * v0 + (cut ((cut (v4 + 1)) + v6)))) s.2.1) 1) (cut (7 - (s.1.tmod 8))))) _ rfl (fun _ => rfl) o_l2i ?_
    refine P_op 90 (i2b32 (cut (shl64 (and64 (ushr64 ((s.2.2.2 101) (65536 * v0 + (cut ((cut (v4 + 1)) + v6)))) s.2.1) 1) (cut (7 - (s.1.tmod 8)))))) _ rfl (fun _ => rfl) (i32_of _).symm ?_
    refine P_op 91 (or32 ((s.2.2.2 100) (65536 * v0 + (s.1.tdiv 8))) (i2b32 (cut (shl64 (and64 (ushr64 ((s.2.2.2 101) (65536 * v0 + (cut ((cut (v4 + 1)) + v6)))) s.2.1) 1) (cut (7 - (s.1.tmod 8))))))) _ rfl (fun _ => rfl) (i32_of _).symm ?_
    refine P_op 92 (i2b32 (or32 ((s.2.2.2 100) (65536 * v0 + (s.1.tdiv 8))) (i2b32 (cut (shl64 (and64 (ushr64 ((s.2.2.2 101) (65536 * v0 + (cut ((cut (v4 + 1)) + v6)))) s.2.1) 1) (cut (7 - (s.1.tmod 8)))))))) _ rfl (fun _ => rfl) (i32_of _).symm ?_
    refine PK_basto2 (a' := [(100, upI (s.2.2.2 100) (65536 * v0 + (s.1.tdiv 8)) (nar2 (i2b32 (or32 ((s.2.2.2 100) (65536 * v0 + (s.1.tdiv 8))) (i2b32 (cut (shl64 (and64 (ushr64 ((s.2.2.2 101) (65536 * v0 + (cut ((cut (v4 + 1)) + v6)))) s.2.1) 1) (cut (7 - (s.1.tmod 8))))))))))]) 93 0 (s.2.2.2 100) rfl rfl rfl gm rfl rfl q0 (tdiv_r g5 (by decide)) rfl rfl ?_
    refine P_inc 96 [(5, .int (i32 (cut (s.1 + 1)))), (0, .ref (obo B v0)), (1, .ref 12), (2, .int (i32 v2)), (3, .int (i32 (j 3))), (4, .int (i32 v4)), (6, .int (i32 v6)), (7, .int (i32 (j 7))), (8, .int (i32 s.2.1))] rfl rfl (by decide) rfl rfl ?_
    refine P_inc 99 [(8, .int (i32 (cut (s.2.1 + (-1))))), (5, .int (i32 (cut (s.1 + 1)))), (0, .ref (obo B v0)), (1, .ref 12), (2, .int (i32 v2)), (3, .int (i32 (j 3))), (4, .int (i32 v4)), (6, .int (i32 v6)), (7, .int (i32 (j 7)))] rfl rfl (by decide) rfl rfl ?_
    refine P_goto 46 rfl (fun _ => rfl) ?_
    refine P_some ?_
    refine P_lv (b := [(0, .ref (obo B v0)), (1, .ref 12), (2, .int (i32 v2)), (3, .int (i32 (j 3))), (4, .int (i32 v4)), (5, .int (i32 (cut (s.1 + 1)))), (6, .int (i32 v6)), (7, .int (i32 (j 7))), (8, .int (i32 (cut (s.2.1 + (-1)))))]) rfl rfl ⟨rfl, rfl, rfl, rfl, rfl, rfl, rfl, rfl, rfl, trivial⟩ ?_
    exact H1 (cut (s.1 + 1), cut (s.2.1 + (-1)), (mO s.2.2 [] [(100, upI (s.2.2.2 100) (65536 * v0 + (s.1.tdiv 8)) (nar2 (i2b32 (or32 ((s.2.2.2 100) (65536 * v0 + (s.1.tdiv 8))) (i2b32 (cut (shl64 (and64 (ushr64 ((s.2.2.2 101) (65536 * v0 + (cut ((cut (v4 + 1)) + v6)))) s.2.1) 1) (cut (7 - (s.1.tmod 8))))))))))])) (jk [(3, j 3), (7, j 7)]) ⟨cut_r, cut_r, (KCo_mO gm rfl rfl (KC6 gm rfl) trivial ⟨(kE_ui (KCn_a gm.1 100) rfl t32_r), trivial⟩)⟩
def kfb_op_write_12 (v0 : Int) (v2 : Int) (v4 : Int) (s : Int × Int × mR) : Option (Sum (Int × Int × mR) (Int × mR)) :=
  if cmp64 ((s.2.2.2 101) (65536 * v0 + v4)) 0 = 0 then
    some (.inr (s.1, s.2.2))
  else
    if (16 : Int) ≤ s.2.1 then
      some (.inr (s.1, s.2.2))
    else
      bnd (kf_pr_widthOfField v2 s.2.1 s.2.2) fun y12 =>
      bnd (whl (kfb_op_write_46 v0 v2 v4 s.2.1) (s.1, cut (y12 - 1), s.2.2)) (fun e15 : Int × mR =>
        kfl_op_write_102 v0 v2 v4 e15.1 s.2.1 e15.2)
theorem dh_op_write_12 (B : oB) (w : wX) (c : Nat → Option am_C) (N D : Nat) (v0 : Int) (v2 : Int) (v4 : Int) (q0 : OKo B v0) (q2 : R32 v2) (q4 : R32 v4) (bb : Nat) (Q2 : Sum (Int × Int × mR) (Int × mR) → ag_Re af_T → Prop) (H1 : ∀ s j, cs_op_write_12 B s → PP bb w D pm_179 (hd_op_write_12 B c N v0 v2 v4 s j) (Q2 (.inl s))) (H2 : ∀ x j, cx_op_write_12 B x → PP bb w D pm_179 (ex_op_write_12 B c N v0 v2 v4 x j) (Q2 (.inr x))) (s : Int × Int × mR) (j : Nat → Int) (hs : cs_op_write_12 B s) : PP (bb + 1) w D pm_179 (hd_op_write_12 B c N v0 v2 v4 s j) (QS Q2 (kfb_op_write_12 v0 v2 v4 s)) := by
  obtain ⟨g5, g6, gm⟩ := hs
  unfold kfb_op_write_12
  show PP (bb + 1) w D pm_179 (12, [(0, .ref (obo B v0)), (1, .ref 12), (2, .int (i32 v2)), (3, .int (i32 (j 3))), (4, .int (i32 v4)), (5, .int (i32 s.1)), (6, .int (i32 s.2.1)), (7, .int (i32 (j 7))), (8, .int (i32 (j 8)))], [], (khp (mO s.2.2 [] []) c, N), 0, 0) _
  refine P1_ld 13 (.ref (obo B v0)) rfl (fun _ => rfl) ?_
  refine PK_gor 16 rfl rfl (OKr_o gm rfl rfl q0) (obr_o gm rfl) rfl ?_
  refine P_ld 18 (.int (i32 v4)) rfl (fun _ => rfl) ?_
  refine PK_lalo2 19 1 (s.2.2.2 101) rfl rfl rfl gm rfl rfl q0 q4 rfl ?_
  refine P_ld 20 (.long (i64 0)) rfl (fun _ => rfl) ?_
  refine P_op 21 (cmp64 ((s.2.2.2 101) (65536 * v0 + v4)) 0) _ rfl (fun _ => rfl) (o_cmp (kE_l (KCn_a gm.1 101) rfl _) (l64 0 rfl)) ?_
  refine P_ifF 108 24 rfl rfl rfl cmp64_r rfl (fun h10 => ?_) (fun h10 => ?_)
  · skip
    refine P_some ?_
    exact H2 (s.1, s.2.2) (jk [(0, v0), (2, v2), (3, j 3), (4, v4), (6, s.2.1), (7, j 7), (8, j 8)]) ⟨g5, gm⟩
  · skip
    refine P_ld 26 (.int (i32 s.2.1)) rfl (fun _ => rfl) ?_
    refine P_ld 28 (.int (i32 16)) rfl (fun _ => rfl) ?_
    refine P_icF 108 31 rfl rfl rfl g6 (l32 16 rfl) rfl (fun h11 => ?_) (fun h11 => ?_)
    · skip
      refine P_some ?_
      exact H2 (s.1, s.2.2) (jk [(0, v0), (2, v2), (3, j 3), (4, v4), (6, s.2.1), (7, j 7), (8, j 8)]) ⟨g5, gm⟩
    · skip
      refine P_ld 32 (.ref 12) rfl (fun _ => rfl) ?_
      refine P_ld 33 (.int (i32 v2)) rfl (fun _ => rfl) ?_
      refine P_ld 35 (.int (i32 s.2.1)) rfl (fun _ => rfl) ?_
      refine P_cp1 38 101 [.ref 12, .int (i32 v2), .int (i32 s.2.1)] [] rfl (fun _ => rfl) rfl (D_pr_widthOfField w s.2.2 c N D gm.1 v2 s.2.1 q2 g6) (fun y12 h13 => ?_)
      refine P_sto 40 [(7, .int (i32 y12)), (0, .ref (obo B v0)), (1, .ref 12), (2, .int (i32 v2)), (3, .int (i32 (j 3))), (4, .int (i32 v4)), (5, .int (i32 s.1)), (6, .int (i32 s.2.1)), (8, .int (i32 (j 8)))] rfl (fun _ => rfl) ?_
      refine P_ld 42 (.int (i32 y12)) rfl (fun _ => rfl) ?_
      refine P_ld 43 (.int (i32 1)) rfl (fun _ => rfl) ?_
      refine P_op 44 (cut (y12 - 1)) _ rfl (fun _ => rfl) o_sub ?_
      refine P_sto 46 [(8, .int (i32 (cut (y12 - 1)))), (7, .int (i32 y12)), (0, .ref (obo B v0)), (1, .ref 12), (2, .int (i32 v2)), (3, .int (i32 (j 3))), (4, .int (i32 v4)), (5, .int (i32 s.1)), (6, .int (i32 s.2.1))] rfl (fun _ => rfl) ?_
      refine P_lv (b := [(0, .ref (obo B v0)), (1, .ref 12), (2, .int (i32 v2)), (3, .int (i32 (j 3))), (4, .int (i32 v4)), (5, .int (i32 s.1)), (6, .int (i32 s.2.1)), (7, .int (i32 y12)), (8, .int (i32 (cut (y12 - 1))))]) rfl rfl ⟨rfl, rfl, rfl, rfl, rfl, rfl, rfl, rfl, rfl, trivial⟩ ?_
      refine P_bnd ?_
      refine P_whl (fun bb Q2 H1 H2 s9 j9 hs9 => dh_op_write_46 B w c N D v0 v2 v4 s.2.1 q0 q2 q4 g6 bb Q2 H1 H2 s9 j9 hs9) bb (fun e15 j q16 => ?_) (s.1, cut (y12 - 1), s.2.2) (jk [(3, j 3), (7, y12)]) ⟨g5, cut_r, gm⟩
      obtain ⟨q17, q18⟩ := q16
      show PP bb w D pm_179 (102, [(0, .ref (obo B v0)), (1, .ref 12), (2, .int (i32 v2)), (3, .int (i32 (j 3))), (4, .int (i32 v4)), (5, .int (i32 e15.1)), (6, .int (i32 s.2.1)), (7, .int (i32 (j 7))), (8, .int (i32 (j 8)))], [], (khp (mO e15.2 [] []) c, N), 0, 0) (QS _ (kfl_op_write_102 v0 v2 v4 e15.1 s.2.1 e15.2))
      exact dg_op_write_102 B w c N D bb v0 v2 v4 e15.1 s.2.1 q0 q2 q4 q17 g6 e15.2 q18 (jk [(3, j 3), (7, j 7), (8, j 8)]) Q2 H1 H2
def kf_op_write (v0 : Int) (v2 : Int) (v3 : Int) (m : mR) : Option (Int × mR) :=
  bnd (whl (kfb_op_write_12 v0 v2 (cut (v2 * 17))) (v3, 0, m)) (fun e19 : Int × mR =>
    some (e19.1, e19.2))
theorem D_op_write (B : oB) (w : wX) (m : mR) (c : Nat → Option am_C) (N D : Nat) (hm : KCo B m) (v0 : Int) (v2 : Int) (v3 : Int) (q0 : OKo B v0) (q2 : R32 v2) (q3 : R32 v3) : PC w D 179 [.ref (obo B v0), .ref 12, .int (i32 v2), .int (i32 v3)] (khp m c, N) (QS (FO1 B c N) (kf_op_write v0 v2 v3 m)) := by
  refine Pc_of (fun D bb => ?_) D
  unfold kf_op_write
  show PP bb w D pm_179 (0, [(0, .ref (obo B v0)), (1, .ref 12), (2, .int (i32 v2)), (3, .int (i32 v3))], [], (khp (mO m [] []) c, N), 0, 0) _
  refine P_ld 1 (.int (i32 v2)) rfl (fun _ => rfl) ?_
  refine P_ld 3 (.int (i32 17)) rfl (fun _ => rfl) ?_
  refine P_op 4 (cut (v2 * 17)) _ rfl (fun _ => rfl) o_mul ?_
  refine P_sto 6 [(4, .int (i32 (cut (v2 * 17)))), (0, .ref (obo B v0)), (1, .ref 12), (2, .int (i32 v2)), (3, .int (i32 v3))] rfl (fun _ => rfl) ?_
  refine P_ld 7 (.int (i32 v3)) rfl (fun _ => rfl) ?_
  refine P_sto 9 [(5, .int (i32 v3)), (4, .int (i32 (cut (v2 * 17)))), (0, .ref (obo B v0)), (1, .ref 12), (2, .int (i32 v2)), (3, .int (i32 v3))] rfl (fun _ => rfl) ?_
  refine P_ld 10 (.int (i32 0)) rfl (fun _ => rfl) ?_
  refine P_sto 12 [(6, .int (i32 0)), (5, .int (i32 v3)), (4, .int (i32 (cut (v2 * 17)))), (0, .ref (obo B v0)), (1, .ref 12), (2, .int (i32 v2)), (3, .int (i32 v3))] rfl (fun _ => rfl) ?_
  refine P_lv (b := [(0, .ref (obo B v0)), (1, .ref 12), (2, .int (i32 v2)), (3, .int (i32 v3)), (4, .int (i32 (cut (v2 * 17)))), (5, .int (i32 v3)), (6, .int (i32 0)), (7, .int (i32 0)), (8, .int (i32 0))]) rfl rfl ⟨rfl, rfl, rfl, rfl, rfl, rfl, rfl, trivial⟩ ?_
  refine P_bnd ?_
  refine P_whl (fun bb Q2 H1 H2 s9 j9 hs9 => dh_op_write_12 B w c N D v0 v2 (cut (v2 * 17)) q0 q2 cut_r bb Q2 H1 H2 s9 j9 hs9) bb (fun e19 j q20 => ?_) (v3, 0, m) (jk [(3, v3)]) ⟨q3, (l32 0 rfl), hm⟩
  obtain ⟨q21, q22⟩ := q20
  show PP bb w D pm_179 (108, [(0, .ref (obo B (j 0))), (1, .ref 12), (2, .int (i32 (j 2))), (3, .int (i32 (j 3))), (4, .int (i32 (j 4))), (5, .int (i32 e19.1)), (6, .int (i32 (j 6))), (7, .int (i32 (j 7))), (8, .int (i32 (j 8)))], [], (khp (mO e19.2 [] []) c, N), 0, 0) (QS _ (some (e19.1, e19.2)))
  refine P_ld 110 (.int (i32 e19.1)) rfl (fun _ => rfl) ?_
  exact P_ro1 rfl q21 q22
end X55DG
