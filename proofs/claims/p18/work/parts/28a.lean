noncomputable section X28A
def cs_Arrays_fill0_b10_5 (s : Int × mR) : Prop := R32 s.1 ∧ KCn s.2
def cx_Arrays_fill0_b10_5 : (mR) → Prop := (fun (e : mR) => KCn e)
def hd_Arrays_fill0_b10_5 (c : Nat → Option am_C) (N : Nat) (v1 : Int) (v3 : Int) (s : Int × mR) (j : Nat → Int) : ag_St af_T := (5, [(0, .ref 13), (1, .int (i32 v1)), (2, .int (i32 s.1)), (3, .int (i32 v3))], [], (khp s.2 c, N), 0, 0)
def ex_Arrays_fill0_b10_5 (c : Nat → Option am_C) (N : Nat) (v1 : Int) (v3 : Int) : (mR) → (Nat → Int) → ag_St af_T := (fun (e : mR) (j : Nat → Int) => ((20, [(0, .ref 13), (1, .int (i32 (j 1))), (2, .int (i32 (j 2))), (3, .int (i32 (j 3)))], [], (khp e c, N), 0, 0) : ag_St af_T))
def kfb_Arrays_fill0_b10_5 (v1 : Int) (v3 : Int) (s : Int × mR) : Option (Sum (Int × mR) (mR)) :=
  if v3 ≤ s.1 then
    some (.inr s.2)
  else
    some (.inl (cut (s.1 + 1), (mO s.2 [] [(10, upI (s.2.2 10) s.1 v1)])))
theorem dh_Arrays_fill0_b10_5 (w : wX) (c : Nat → Option am_C) (N D : Nat) (v1 : Int) (v3 : Int) (q1 : R32 v1) (q3 : R32 v3) (bb : Nat) (Q2 : Sum (Int × mR) (mR) → ag_Re af_T → Prop) (H1 : ∀ s j, cs_Arrays_fill0_b10_5 s → PP bb w D pm_25 (hd_Arrays_fill0_b10_5 c N v1 v3 s j) (Q2 (.inl s))) (H2 : ∀ x j, cx_Arrays_fill0_b10_5 x → PP bb w D pm_25 (ex_Arrays_fill0_b10_5 c N v1 v3 x j) (Q2 (.inr x))) (s : Int × mR) (j : Nat → Int) (hs : cs_Arrays_fill0_b10_5 s) : PP (bb + 1) w D pm_25 (hd_Arrays_fill0_b10_5 c N v1 v3 s j) (QS Q2 (kfb_Arrays_fill0_b10_5 v1 v3 s)) := by
  obtain ⟨g2, gm⟩ := hs
  unfold kfb_Arrays_fill0_b10_5
  show PP (bb + 1) w D pm_25 (5, [(0, .ref 13), (1, .int (i32 v1)), (2, .int (i32 s.1)), (3, .int (i32 v3))], [], (khp (mO s.2 [] []) c, N), 0, 0) _
  refine P1_ld 6 (.int (i32 s.1)) rfl (fun _ => rfl) ?_
  refine P_ld 7 (.int (i32 v3)) rfl (fun _ => rfl) ?_
  refine P_icF 20 10 rfl rfl rfl g2 q3 rfl (fun h3 => ?_) (fun h3 => ?_)
  · skip
    refine P_some ?_
    exact H2 s.2 (jk [(1, v1), (2, s.1), (3, v3)]) gm
  · skip
    refine P_ld 11 (.ref 13) rfl (fun _ => rfl) ?_
    refine P_ld 12 (.int (i32 s.1)) rfl (fun _ => rfl) ?_
    refine P_ld 13 (.int (i32 v1)) rfl (fun _ => rfl) ?_
    refine PK_iast2 (a' := [(10, upI (s.2.2 10) s.1 v1)]) 14 10 (s.2.2 10) rfl rfl rfl g2 rfl rfl ?_
    refine P_inc 17 [(2, .int (i32 (cut (s.1 + 1)))), (0, .ref 13), (1, .int (i32 v1)), (3, .int (i32 v3))] rfl rfl (by decide) rfl rfl ?_
    refine P_goto 5 rfl (fun _ => rfl) ?_
    refine P_some ?_
    refine P_lv (b := [(0, .ref 13), (1, .int (i32 v1)), (2, .int (i32 (cut (s.1 + 1)))), (3, .int (i32 v3))]) rfl rfl ⟨rfl, rfl, rfl, rfl, trivial⟩ ?_
    exact H1 (cut (s.1 + 1), (mO s.2 [] [(10, upI (s.2.2 10) s.1 v1)])) (jk []) ⟨cut_r, (KCn_mO gm rfl rfl trivial ⟨(kE_ui (KCn_a gm 10) rfl q1), trivial⟩)⟩
def kf_Arrays_fill0_b10 (v1 : Int) (m : mR) : Option (Int × mR) :=
  bnd (whl (kfb_Arrays_fill0_b10_5 v1 192) (0, m)) (fun e4 : mR =>
    some (0, e4))
theorem D_Arrays_fill0_b10 (w : wX) (m : mR) (c : Nat → Option am_C) (N D : Nat) (hm : KCn m) (v1 : Int) (q1 : R32 v1) : PC w D 25 [.ref 13, .int (i32 v1)] (khp m c, N) (QS (FK0 c N) (kf_Arrays_fill0_b10 v1 m)) := by
  refine Pc_of (fun D bb => ?_) D
  unfold kf_Arrays_fill0_b10
  show PP bb w D pm_25 (0, [(0, .ref 13), (1, .int (i32 v1))], [], (khp (mO m [] []) c, N), 0, 0) _
  refine P_ld 1 (.int (i32 0)) rfl (fun _ => rfl) ?_
  refine P_sto 2 [(2, .int (i32 0)), (0, .ref 13), (1, .int (i32 v1))] rfl (fun _ => rfl) ?_
  refine P_ld 3 (.ref 13) rfl (fun _ => rfl) ?_
  refine P_ld1 4 (.int (i32 192)) rfl (fun _ => rfl) ?_
  refine P_sto 5 [(3, .int (i32 192)), (2, .int (i32 0)), (0, .ref 13), (1, .int (i32 v1))] rfl (fun _ => rfl) ?_
  refine P_lv (b := [(0, .ref 13), (1, .int (i32 v1)), (2, .int (i32 0)), (3, .int (i32 192))]) rfl rfl ⟨rfl, rfl, rfl, rfl, trivial⟩ ?_
  refine P_bnd ?_
  refine P_whl (fun bb Q2 H1 H2 s9 j9 hs9 => dh_Arrays_fill0_b10_5 w c N D v1 192 q1 (l32 192 rfl) bb Q2 H1 H2 s9 j9 hs9) bb (fun e4 j q5 => ?_) (0, m) (jk []) ⟨(l32 0 rfl), hm⟩
  have q6 := q5
  show PP bb w D pm_25 (20, [(0, .ref 13), (1, .int (i32 (j 1))), (2, .int (i32 (j 2))), (3, .int (i32 (j 3)))], [], (khp (mO e4 [] []) c, N), 0, 0) (QS _ (some (0, e4)))
  exact P_rk0 rfl rfl q6
def cs_Arrays_fill0_b14_5 (s : Int × mR) : Prop := R32 s.1 ∧ KCn s.2
def cx_Arrays_fill0_b14_5 : (mR) → Prop := (fun (e : mR) => KCn e)
def hd_Arrays_fill0_b14_5 (c : Nat → Option am_C) (N : Nat) (v1 : Int) (v3 : Int) (s : Int × mR) (j : Nat → Int) : ag_St af_T := (5, [(0, .ref 17), (1, .int (i32 v1)), (2, .int (i32 s.1)), (3, .int (i32 v3))], [], (khp s.2 c, N), 0, 0)
def ex_Arrays_fill0_b14_5 (c : Nat → Option am_C) (N : Nat) (v1 : Int) (v3 : Int) : (mR) → (Nat → Int) → ag_St af_T := (fun (e : mR) (j : Nat → Int) => ((20, [(0, .ref 17), (1, .int (i32 (j 1))), (2, .int (i32 (j 2))), (3, .int (i32 (j 3)))], [], (khp e c, N), 0, 0) : ag_St af_T))
def kfb_Arrays_fill0_b14_5 (v1 : Int) (v3 : Int) (s : Int × mR) : Option (Sum (Int × mR) (mR)) :=
  if v3 ≤ s.1 then
    some (.inr s.2)
  else
    some (.inl (cut (s.1 + 1), (mO s.2 [] [(14, upI (s.2.2 14) s.1 v1)])))
theorem dh_Arrays_fill0_b14_5 (w : wX) (c : Nat → Option am_C) (N D : Nat) (v1 : Int) (v3 : Int) (q1 : R32 v1) (q3 : R32 v3) (bb : Nat) (Q2 : Sum (Int × mR) (mR) → ag_Re af_T → Prop) (H1 : ∀ s j, cs_Arrays_fill0_b14_5 s → PP bb w D pm_25 (hd_Arrays_fill0_b14_5 c N v1 v3 s j) (Q2 (.inl s))) (H2 : ∀ x j, cx_Arrays_fill0_b14_5 x → PP bb w D pm_25 (ex_Arrays_fill0_b14_5 c N v1 v3 x j) (Q2 (.inr x))) (s : Int × mR) (j : Nat → Int) (hs : cs_Arrays_fill0_b14_5 s) : PP (bb + 1) w D pm_25 (hd_Arrays_fill0_b14_5 c N v1 v3 s j) (QS Q2 (kfb_Arrays_fill0_b14_5 v1 v3 s)) := by
  obtain ⟨g2, gm⟩ := hs
  unfold kfb_Arrays_fill0_b14_5
  show PP (bb + 1) w D pm_25 (5, [(0, .ref 17), (1, .int (i32 v1)), (2, .int (i32 s.1)), (3, .int (i32 v3))], [], (khp (mO s.2 [] []) c, N), 0, 0) _
  refine P1_ld 6 (.int (i32 s.1)) rfl (fun _ => rfl) ?_
  refine P_ld 7 (.int (i32 v3)) rfl (fun _ => rfl) ?_
  refine P_icF 20 10 rfl rfl rfl g2 q3 rfl (fun h3 => ?_) (fun h3 => ?_)
  · skip
    refine P_some ?_
    exact H2 s.2 (jk [(1, v1), (2, s.1), (3, v3)]) gm
  · skip
    refine P_ld 11 (.ref 17) rfl (fun _ => rfl) ?_
    refine P_ld 12 (.int (i32 s.1)) rfl (fun _ => rfl) ?_
    refine P_ld 13 (.int (i32 v1)) rfl (fun _ => rfl) ?_
    refine PK_iast2 (a' := [(14, upI (s.2.2 14) s.1 v1)]) 14 14 (s.2.2 14) rfl rfl rfl g2 rfl rfl ?_
    refine P_inc 17 [(2, .int (i32 (cut (s.1 + 1)))), (0, .ref 17), (1, .int (i32 v1)), (3, .int (i32 v3))] rfl rfl (by decide) rfl rfl ?_
    refine P_goto 5 rfl (fun _ => rfl) ?_
    refine P_some ?_
    refine P_lv (b := [(0, .ref 17), (1, .int (i32 v1)), (2, .int (i32 (cut (s.1 + 1)))), (3, .int (i32 v3))]) rfl rfl ⟨rfl, rfl, rfl, rfl, trivial⟩ ?_
    exact H1 (cut (s.1 + 1), (mO s.2 [] [(14, upI (s.2.2 14) s.1 v1)])) (jk []) ⟨cut_r, (KCn_mO gm rfl rfl trivial ⟨(kE_ui (KCn_a gm 14) rfl q1), trivial⟩)⟩
def kf_Arrays_fill0_b14 (v1 : Int) (m : mR) : Option (Int × mR) :=
  bnd (whl (kfb_Arrays_fill0_b14_5 v1 16) (0, m)) (fun e4 : mR =>
    some (0, e4))
theorem D_Arrays_fill0_b14 (w : wX) (m : mR) (c : Nat → Option am_C) (N D : Nat) (hm : KCn m) (v1 : Int) (q1 : R32 v1) : PC w D 25 [.ref 17, .int (i32 v1)] (khp m c, N) (QS (FK0 c N) (kf_Arrays_fill0_b14 v1 m)) := by
  refine Pc_of (fun D bb => ?_) D
  unfold kf_Arrays_fill0_b14
  show PP bb w D pm_25 (0, [(0, .ref 17), (1, .int (i32 v1))], [], (khp (mO m [] []) c, N), 0, 0) _
  refine P_ld 1 (.int (i32 0)) rfl (fun _ => rfl) ?_
  refine P_sto 2 [(2, .int (i32 0)), (0, .ref 17), (1, .int (i32 v1))] rfl (fun _ => rfl) ?_
  refine P_ld 3 (.ref 17) rfl (fun _ => rfl) ?_
  refine P_ld1 4 (.int (i32 16)) rfl (fun _ => rfl) ?_
  refine P_sto 5 [(3, .int (i32 16)), (2, .int (i32 0)), (0, .ref 17), (1, .int (i32 v1))] rfl (fun _ => rfl) ?_
  refine P_lv (b := [(0, .ref 17), (1, .int (i32 v1)), (2, .int (i32 0)), (3, .int (i32 16))]) rfl rfl ⟨rfl, rfl, rfl, rfl, trivial⟩ ?_
  refine P_bnd ?_
  refine P_whl (fun bb Q2 H1 H2 s9 j9 hs9 => dh_Arrays_fill0_b14_5 w c N D v1 16 q1 (l32 16 rfl) bb Q2 H1 H2 s9 j9 hs9) bb (fun e4 j q5 => ?_) (0, m) (jk []) ⟨(l32 0 rfl), hm⟩
  have q6 := q5
  show PP bb w D pm_25 (20, [(0, .ref 17), (1, .int (i32 (j 1))), (2, .int (i32 (j 2))), (3, .int (i32 (j 3)))], [], (khp (mO e4 [] []) c, N), 0, 0) (QS _ (some (0, e4)))
  exact P_rk0 rfl rfl q6
def kf_pr_clear (m : mR) : Option (Int × mR) :=
  bnd (kf_Arrays_fill0_b10 0 m) fun y1 =>
  bnd (kf_Arrays_fill0_b14 16 (mO y1.2 [(214, 0), (215, 0), (216, 3)] [])) fun y4 =>
  some (0, (mO y4.2 [(217, 0), (218, 0), (219, 0), (220, 0), (221, 0), (222, 0), (223, 0), (224, 0), (225, 0), (226, 0)] []))
theorem D_pr_clear (w : wX) (m : mR) (c : Nat → Option am_C) (N D : Nat) (hm : KCn m) : PC w D 44 [.ref 12] (khp m c, N) (QS (FK0 c N) (kf_pr_clear m)) := by
  refine Pc_of (fun D bb => ?_) D
  unfold kf_pr_clear
  show PP bb w D pm_44 (0, [(0, .ref 12)], [], (khp (mO m [] []) c, N), 0, 0) _
  refine P_ld 1 (.ref 12) rfl (fun _ => rfl) ?_
  refine PK_gf 4 (.ref 13) rfl rfl kd_12 rfl rfl rfl ?_
  refine P_ld 5 (.int (i32 0)) rfl (fun _ => rfl) ?_
  refine P_ck0 8 25 [.ref 13, .int (i32 0)] [] rfl (fun _ => rfl) rfl (D_Arrays_fill0_b10 w m c N D hm 0 (l32 0 rfl)) (fun y1 n3 => ?_)
  refine P_ld 9 (.ref 12) rfl (fun _ => rfl) ?_
  refine P_ld 10 (.int (i32 0)) rfl (fun _ => rfl) ?_
  refine PK_pf (l' := [(214, 0)]) 13 0 rfl rfl kd_12 rfl rfl rfl rfl rfl rfl rfl ?_
  refine P_ld 14 (.ref 12) rfl (fun _ => rfl) ?_
  refine P_ld 15 (.int (i32 0)) rfl (fun _ => rfl) ?_
  refine PK_pf (l' := [(214, 0), (215, 0)]) 18 0 rfl rfl kd_12 rfl rfl rfl rfl rfl rfl rfl ?_
  refine P_ld 19 (.ref 12) rfl (fun _ => rfl) ?_
  refine P_ld 20 (.int (i32 3)) rfl (fun _ => rfl) ?_
  refine PK_pf (l' := [(214, 0), (215, 0), (216, 3)]) 23 3 rfl rfl kd_12 rfl rfl rfl rfl rfl rfl rfl ?_
  refine P_ld 24 (.ref 12) rfl (fun _ => rfl) ?_
  refine PK_gf 27 (.ref 17) rfl rfl kd_12 rfl rfl rfl ?_
  refine P_ld 29 (.int (i32 16)) rfl (fun _ => rfl) ?_
  refine P_ck0 32 25 [.ref 17, .int (i32 16)] [] rfl (fun _ => rfl) rfl (D_Arrays_fill0_b14 w (mO y1.2 [(214, 0), (215, 0), (216, 3)] []) c N D (KCn_mO n3 rfl rfl ⟨(kV_i rfl (l32 0 rfl)), (kV_i rfl (l32 0 rfl)), (kV_i rfl (l32 3 rfl)), trivial⟩ trivial) 16 (l32 16 rfl)) (fun y4 n6 => ?_)
  refine P_ld 33 (.ref 12) rfl (fun _ => rfl) ?_
  refine P_ld 34 (.int (i32 0)) rfl (fun _ => rfl) ?_
  refine PK_pf (l' := [(217, 0)]) 37 0 rfl rfl kd_12 rfl rfl rfl rfl rfl rfl rfl ?_
  refine P_ld 38 (.ref 12) rfl (fun _ => rfl) ?_
  refine P_ld 39 (.int (i32 0)) rfl (fun _ => rfl) ?_
  refine PK_pf (l' := [(217, 0), (218, 0)]) 42 0 rfl rfl kd_12 rfl rfl rfl rfl rfl rfl rfl ?_
  refine P_ld 43 (.ref 12) rfl (fun _ => rfl) ?_
  refine P_ld 44 (.int (i32 0)) rfl (fun _ => rfl) ?_
  refine PK_pf (l' := [(217, 0), (218, 0), (219, 0)]) 47 0 rfl rfl kd_12 rfl rfl rfl rfl rfl rfl rfl ?_
  refine P_ld 48 (.ref 12) rfl (fun _ => rfl) ?_
  refine PK_gf 51 (.ref 22) rfl rfl kd_12 rfl rfl rfl ?_
  refine P_ld 52 (.int (i32 0)) rfl (fun _ => rfl) ?_
  refine PK_pf (l' := [(217, 0), (218, 0), (219, 0), (220, 0)]) 55 0 rfl rfl kd_22 rfl rfl rfl rfl rfl rfl rfl ?_
  refine P_ld 56 (.ref 12) rfl (fun _ => rfl) ?_
  refine PK_gf 59 (.ref 31) rfl rfl kd_12 rfl rfl rfl ?_
  refine P_ld 60 (.int (i32 0)) rfl (fun _ => rfl) ?_
  refine PK_pf (l' := [(217, 0), (218, 0), (219, 0), (220, 0), (221, 0)]) 63 0 rfl rfl kd_31 rfl rfl rfl rfl rfl rfl rfl ?_
  refine P_ld 64 (.ref 12) rfl (fun _ => rfl) ?_
  refine PK_gf 67 (.ref 31) rfl rfl kd_12 rfl rfl rfl ?_
  refine P_ld 68 (.int (i32 0)) rfl (fun _ => rfl) ?_
  refine PK_pf (l' := [(217, 0), (218, 0), (219, 0), (220, 0), (221, 0), (222, 0)]) 71 0 rfl rfl kd_31 rfl rfl rfl rfl rfl rfl rfl ?_
  refine P_ld 72 (.ref 12) rfl (fun _ => rfl) ?_
  refine PK_gf 75 (.ref 45) rfl rfl kd_12 rfl rfl rfl ?_
  refine P_ld 76 (.int (i32 0)) rfl (fun _ => rfl) ?_
  refine PK_pf (l' := [(217, 0), (218, 0), (219, 0), (220, 0), (221, 0), (222, 0), (223, 0)]) 79 0 rfl rfl kd_45 rfl rfl rfl rfl rfl rfl rfl ?_
  refine P_ld 80 (.ref 12) rfl (fun _ => rfl) ?_
  refine PK_gf 83 (.ref 45) rfl rfl kd_12 rfl rfl rfl ?_
  refine P_ld 84 (.int (i32 0)) rfl (fun _ => rfl) ?_
  refine PK_pf (l' := [(217, 0), (218, 0), (219, 0), (220, 0), (221, 0), (222, 0), (223, 0), (224, 0)]) 87 0 rfl rfl kd_45 rfl rfl rfl rfl rfl rfl rfl ?_
  refine P_ld 88 (.ref 12) rfl (fun _ => rfl) ?_
  refine PK_gf 91 (.ref 59) rfl rfl kd_12 rfl rfl rfl ?_
  refine P_ld 92 (.int (i32 0)) rfl (fun _ => rfl) ?_
  refine PK_pf (l' := [(217, 0), (218, 0), (219, 0), (220, 0), (221, 0), (222, 0), (223, 0), (224, 0), (225, 0)]) 95 0 rfl rfl kd_59 rfl rfl rfl rfl rfl rfl rfl ?_
  refine P_ld 96 (.ref 12) rfl (fun _ => rfl) ?_
  refine PK_gf 99 (.ref 59) rfl rfl kd_12 rfl rfl rfl ?_
  refine P_ld 100 (.int (i32 0)) rfl (fun _ => rfl) ?_
  refine PK_pf (l' := [(217, 0), (218, 0), (219, 0), (220, 0), (221, 0), (222, 0), (223, 0), (224, 0), (225, 0), (226, 0)]) 103 0 rfl rfl kd_59 rfl rfl rfl rfl rfl rfl rfl ?_
  exact P_rk0 rfl rfl (KCn_mO n6 rfl rfl ⟨(kV_i rfl (l32 0 rfl)), (kV_i rfl (l32 0 rfl)), (kV_i rfl (l32 0 rfl)), (kV_i rfl (l32 0 rfl)), (kV_i rfl (l32 0 rfl)), (kV_i rfl (l32 0 rfl)), (kV_i rfl (l32 0 rfl)), (kV_i rfl (l32 0 rfl)), (kV_i rfl (l32 0 rfl)), (kV_i rfl (l32 0 rfl)), trivial⟩ trivial)
def cs_Arrays_fill1_b71_6 (s : Int × mR) : Prop := R32 s.1 ∧ KCn s.2
def cx_Arrays_fill1_b71_6 : (mR) → Prop := (fun (e : mR) => KCn e)
def hd_Arrays_fill1_b71_6 (c : Nat → Option am_C) (N : Nat) (v1 : Int) (v4 : Int) (s : Int × mR) (j : Nat → Int) : ag_St af_T := (6, [(0, .ref 188), (1, .long (i64 v1)), (3, .int (i32 s.1)), (4, .int (i32 v4))], [], (khp s.2 c, N), 0, 0)
def ex_Arrays_fill1_b71_6 (c : Nat → Option am_C) (N : Nat) (v1 : Int) (v4 : Int) : (mR) → (Nat → Int) → ag_St af_T := (fun (e : mR) (j : Nat → Int) => ((22, [(0, .ref 188), (1, .long (i64 (j 1))), (3, .int (i32 (j 3))), (4, .int (i32 (j 4)))], [], (khp e c, N), 0, 0) : ag_St af_T))
def kfb_Arrays_fill1_b71_6 (v1 : Int) (v4 : Int) (s : Int × mR) : Option (Sum (Int × mR) (mR)) :=
  if v4 ≤ s.1 then
    some (.inr s.2)
  else
    some (.inl (cut (s.1 + 1), (mO s.2 [] [(71, upI (s.2.2 71) s.1 v1)])))
theorem dh_Arrays_fill1_b71_6 (w : wX) (c : Nat → Option am_C) (N D : Nat) (v1 : Int) (v4 : Int) (q1 : R64 v1) (q4 : R32 v4) (bb : Nat) (Q2 : Sum (Int × mR) (mR) → ag_Re af_T → Prop) (H1 : ∀ s j, cs_Arrays_fill1_b71_6 s → PP bb w D pm_46 (hd_Arrays_fill1_b71_6 c N v1 v4 s j) (Q2 (.inl s))) (H2 : ∀ x j, cx_Arrays_fill1_b71_6 x → PP bb w D pm_46 (ex_Arrays_fill1_b71_6 c N v1 v4 x j) (Q2 (.inr x))) (s : Int × mR) (j : Nat → Int) (hs : cs_Arrays_fill1_b71_6 s) : PP (bb + 1) w D pm_46 (hd_Arrays_fill1_b71_6 c N v1 v4 s j) (QS Q2 (kfb_Arrays_fill1_b71_6 v1 v4 s)) := by
  obtain ⟨g3, gm⟩ := hs
  unfold kfb_Arrays_fill1_b71_6
  show PP (bb + 1) w D pm_46 (6, [(0, .ref 188), (1, .long (i64 v1)), (3, .int (i32 s.1)), (4, .int (i32 v4))], [], (khp (mO s.2 [] []) c, N), 0, 0) _
  refine P1_ld 7 (.int (i32 s.1)) rfl (fun _ => rfl) ?_
  refine P_ld 9 (.int (i32 v4)) rfl (fun _ => rfl) ?_
  refine P_icF 22 12 rfl rfl rfl g3 q4 rfl (fun h3 => ?_) (fun h3 => ?_)
  · skip
    refine P_some ?_
    exact H2 s.2 (jk [(1, v1), (3, s.1), (4, v4)]) gm
  · skip
    refine P_ld 13 (.ref 188) rfl (fun _ => rfl) ?_
    refine P_ld 14 (.int (i32 s.1)) rfl (fun _ => rfl) ?_
    refine P_ld 15 (.long (i64 v1)) rfl (fun _ => rfl) ?_
    refine PK_last2 (a' := [(71, upI (s.2.2 71) s.1 v1)]) 16 71 (s.2.2 71) rfl rfl rfl g3 rfl rfl ?_
    refine P_inc 19 [(3, .int (i32 (cut (s.1 + 1)))), (0, .ref 188), (1, .long (i64 v1)), (4, .int (i32 v4))] rfl rfl (by decide) rfl rfl ?_
    refine P_goto 6 rfl (fun _ => rfl) ?_
    refine P_some ?_
    refine P_lv (b := [(0, .ref 188), (1, .long (i64 v1)), (3, .int (i32 (cut (s.1 + 1)))), (4, .int (i32 v4))]) rfl rfl ⟨rfl, rfl, rfl, rfl, trivial⟩ ?_
    exact H1 (cut (s.1 + 1), (mO s.2 [] [(71, upI (s.2.2 71) s.1 v1)])) (jk []) ⟨cut_r, (KCn_mO gm rfl rfl trivial ⟨(kE_ul (KCn_a gm 71) rfl q1), trivial⟩)⟩
def kf_Arrays_fill1_b71 (v1 : Int) (m : mR) : Option (Int × mR) :=
  bnd (whl (kfb_Arrays_fill1_b71_6 v1 512) (0, m)) (fun e4 : mR =>
    some (0, e4))
theorem D_Arrays_fill1_b71 (w : wX) (m : mR) (c : Nat → Option am_C) (N D : Nat) (hm : KCn m) (v1 : Int) (q1 : R64 v1) : PC w D 46 [.ref 188, .long (i64 v1)] (khp m c, N) (QS (FK0 c N) (kf_Arrays_fill1_b71 v1 m)) := by
  refine Pc_of (fun D bb => ?_) D
  unfold kf_Arrays_fill1_b71
  show PP bb w D pm_46 (0, [(0, .ref 188), (1, .long (i64 v1))], [], (khp (mO m [] []) c, N), 0, 0) _
  refine P_ld 1 (.int (i32 0)) rfl (fun _ => rfl) ?_
  refine P_sto 2 [(3, .int (i32 0)), (0, .ref 188), (1, .long (i64 v1))] rfl (fun _ => rfl) ?_
  refine P_ld 3 (.ref 188) rfl (fun _ => rfl) ?_
  refine P_ld1 4 (.int (i32 512)) rfl (fun _ => rfl) ?_
  refine P_sto 6 [(4, .int (i32 512)), (3, .int (i32 0)), (0, .ref 188), (1, .long (i64 v1))] rfl (fun _ => rfl) ?_
  refine P_lv (b := [(0, .ref 188), (1, .long (i64 v1)), (3, .int (i32 0)), (4, .int (i32 512))]) rfl rfl ⟨rfl, rfl, rfl, rfl, trivial⟩ ?_
  refine P_bnd ?_
  refine P_whl (fun bb Q2 H1 H2 s9 j9 hs9 => dh_Arrays_fill1_b71_6 w c N D v1 512 q1 (l32 512 rfl) bb Q2 H1 H2 s9 j9 hs9) bb (fun e4 j q5 => ?_) (0, m) (jk []) ⟨(l32 0 rfl), hm⟩
  have q6 := q5
  show PP bb w D pm_46 (22, [(0, .ref 188), (1, .long (i64 (j 1))), (3, .int (i32 (j 3))), (4, .int (i32 (j 4)))], [], (khp (mO e4 [] []) c, N), 0, 0) (QS _ (some (0, e4)))
  exact P_rk0 rfl rfl q6
def cs_pi_clear_30 (s : Int × mR) : Prop := R32 s.1 ∧ KCn s.2
def cx_pi_clear_30 : (mR) → Prop := (fun (e : mR) => KCn e)
def hd_pi_clear_30 (c : Nat → Option am_C) (N : Nat) (s : Int × mR) (j : Nat → Int) : ag_St af_T := (30, [(0, .ref 185), (1, .int (i32 s.1))], [], (khp s.2 c, N), 0, 0)
def ex_pi_clear_30 (c : Nat → Option am_C) (N : Nat) : (mR) → (Nat → Int) → ag_St af_T := (fun (e : mR) (j : Nat → Int) => ((49, [(0, .ref 185), (1, .int (i32 (j 1)))], [], (khp e c, N), 0, 0) : ag_St af_T))
def kfb_pi_clear_30 (s : Int × mR) : Option (Sum (Int × mR) (mR)) :=
  if (12 : Int) ≤ s.1 then
    some (.inr s.2)
  else
    some (.inl (cut (s.1 + 1), (mO s.2 [] [(106, upI (s.2.2 106) s.1 (-1))])))
theorem dh_pi_clear_30 (w : wX) (c : Nat → Option am_C) (N D : Nat) (bb : Nat) (Q2 : Sum (Int × mR) (mR) → ag_Re af_T → Prop) (H1 : ∀ s j, cs_pi_clear_30 s → PP bb w D pm_45 (hd_pi_clear_30 c N s j) (Q2 (.inl s))) (H2 : ∀ x j, cx_pi_clear_30 x → PP bb w D pm_45 (ex_pi_clear_30 c N x j) (Q2 (.inr x))) (s : Int × mR) (j : Nat → Int) (hs : cs_pi_clear_30 s) : PP (bb + 1) w D pm_45 (hd_pi_clear_30 c N s j) (QS Q2 (kfb_pi_clear_30 s)) := by
  obtain ⟨g1, gm⟩ := hs
  unfold kfb_pi_clear_30
  show PP (bb + 1) w D pm_45 (30, [(0, .ref 185), (1, .int (i32 s.1))], [], (khp (mO s.2 [] []) c, N), 0, 0) _
  refine P1_ld 31 (.int (i32 s.1)) rfl (fun _ => rfl) ?_
  refine P_ld 33 (.int (i32 12)) rfl (fun _ => rfl) ?_
  refine P_icF 49 36 rfl rfl rfl g1 (l32 12 rfl) rfl (fun h3 => ?_) (fun h3 => ?_)
  · skip
    refine P_some ?_
    exact H2 s.2 (jk [(1, s.1)]) gm
  · skip
    refine P_ld 37 (.ref 185) rfl (fun _ => rfl) ?_
    refine PK_gf 40 (.ref 187) rfl rfl kd_185 rfl rfl rfl ?_
    refine P_ld 41 (.int (i32 s.1)) rfl (fun _ => rfl) ?_
    refine P_ld 42 .null rfl (fun _ => rfl) ?_
    refine PK_aasn2 (a' := [(106, upI (s.2.2 106) s.1 (-1))]) 43 (s.2.2 106) rfl rfl g1 gm rfl rfl ?_
    refine P_inc 46 [(1, .int (i32 (cut (s.1 + 1)))), (0, .ref 185)] rfl rfl (by decide) rfl rfl ?_
    refine P_goto 30 rfl (fun _ => rfl) ?_
    refine P_some ?_
    refine P_lv (b := [(0, .ref 185), (1, .int (i32 (cut (s.1 + 1))))]) rfl rfl ⟨rfl, rfl, trivial⟩ ?_
    exact H1 (cut (s.1 + 1), (mO s.2 [] [(106, upI (s.2.2 106) s.1 (-1))])) (jk []) ⟨cut_r, (KCn_mO gm rfl rfl trivial ⟨(kE_ui (KCn_a gm 106) rfl (l32 (-1) rfl)), trivial⟩)⟩
def kf_pi_clear (m : mR) : Option (Int × mR) :=
  bnd (kf_Arrays_fill1_b71 0 (mO m [(232, 0), (233, 0), (234, 0), (235, 0)] [])) fun y4 =>
  bnd (whl kfb_pi_clear_30 (0, y4.2)) (fun e7 : mR =>
    some (0, e7))
theorem D_pi_clear (w : wX) (m : mR) (c : Nat → Option am_C) (N D : Nat) (hm : KCn m) : PC w D 45 [.ref 185] (khp m c, N) (QS (FK0 c N) (kf_pi_clear m)) := by
  refine Pc_of (fun D bb => ?_) D
  unfold kf_pi_clear
  show PP bb w D pm_45 (0, [(0, .ref 185)], [], (khp (mO m [] []) c, N), 0, 0) _
  refine P_ld 1 (.ref 185) rfl (fun _ => rfl) ?_
  refine P_ld 2 (.int (i32 0)) rfl (fun _ => rfl) ?_
  refine PK_pf (l' := [(232, 0)]) 5 0 rfl rfl kd_185 rfl rfl rfl rfl rfl rfl rfl ?_
  refine P_ld 6 (.ref 185) rfl (fun _ => rfl) ?_
  refine P_ld 7 (.int (i32 0)) rfl (fun _ => rfl) ?_
  refine PK_pf (l' := [(232, 0), (233, 0)]) 10 0 rfl rfl kd_185 rfl rfl rfl rfl rfl rfl rfl ?_
  refine P_ld 11 (.ref 185) rfl (fun _ => rfl) ?_
  refine P_ld 12 (.int (i32 0)) rfl (fun _ => rfl) ?_
  refine PK_pf (l' := [(232, 0), (233, 0), (234, 0)]) 15 0 rfl rfl kd_185 rfl rfl rfl rfl rfl rfl rfl ?_
  refine P_ld 16 (.ref 185) rfl (fun _ => rfl) ?_
  refine P_ld 17 (.int (i32 0)) rfl (fun _ => rfl) ?_
  refine PK_pf (l' := [(232, 0), (233, 0), (234, 0), (235, 0)]) 20 0 rfl rfl kd_185 rfl rfl rfl rfl rfl rfl rfl ?_
  refine P_ld 21 (.ref 185) rfl (fun _ => rfl) ?_
  refine PK_gf 24 (.ref 188) rfl rfl kd_185 rfl rfl rfl ?_
  refine P_ld 25 (.long (i64 0)) rfl (fun _ => rfl) ?_
  refine P_ck0 28 46 [.ref 188, .long (i64 0)] [] rfl (fun _ => rfl) rfl (D_Arrays_fill1_b71 w (mO m [(232, 0), (233, 0), (234, 0), (235, 0)] []) c N D (KCn_mO hm rfl rfl ⟨(kV_i rfl (l32 0 rfl)), (kV_i rfl (l32 0 rfl)), (kV_i rfl (l32 0 rfl)), (kV_i rfl (l32 0 rfl)), trivial⟩ trivial) 0 (l64 0 rfl)) (fun y4 n6 => ?_)
  refine P_ld 29 (.int (i32 0)) rfl (fun _ => rfl) ?_
  refine P_sto 30 [(1, .int (i32 0)), (0, .ref 185)] rfl (fun _ => rfl) ?_
  refine P_lv (b := [(0, .ref 185), (1, .int (i32 0))]) rfl rfl ⟨rfl, rfl, trivial⟩ ?_
  refine P_bnd ?_
  refine P_whl (fun bb Q2 H1 H2 s9 j9 hs9 => dh_pi_clear_30 w c N D bb Q2 H1 H2 s9 j9 hs9) bb (fun e7 j q8 => ?_) (0, y4.2) (jk []) ⟨(l32 0 rfl), n6⟩
  have q9 := q8
  show PP bb w D pm_45 (49, [(0, .ref 185), (1, .int (i32 (j 1)))], [], (khp (mO e7 [] []) c, N), 0, 0) (QS _ (some (0, e7)))
  exact P_rk0 rfl rfl q9
def kfl_String_coder_b20001_14 (u0 : Int) (m : mR) : Option Int :=
  some u0
theorem dg_String_coder_b20001_14 (w : wX) (c : Nat → Option am_C) (N D : Nat) (bb : Nat) (u0 : Int) (r0 : R32 u0) (m : mR) (hm : KCn m) (j : Nat → Int) : PP bb w D pm_4 (14, [(0, .ref 1000003)], [.int (i32 u0)], (khp m c, N), 0, 0) (QS (FP1 (khp m c, N)) (kfl_String_coder_b20001_14 u0 m)) := by
  unfold kfl_String_coder_b20001_14
  show PP bb w D pm_4 (14, [(0, .ref 1000003)], [.int (i32 u0)], (khp (mO m [] []) c, N), 0, 0) _
  exact P_rp1 rfl r0
def kf_String_coder_b20001 (m : mR) : Option Int :=
  kfl_String_coder_b20001_14 0 m
theorem D_String_coder_b20001 (w : wX) (m : mR) (c : Nat → Option am_C) (N D : Nat) (hm : KCn m) : PC w D 4 [.ref 1000003] (khp m c, N) (QS (FP1 (khp m c, N)) (kf_String_coder_b20001 m)) := by
  refine Pc_of (fun D bb => ?_) D
  unfold kf_String_coder_b20001
  show PP bb w D pm_4 (0, [(0, .ref 1000003)], [], (khp (mO m [] []) c, N), 0, 0) _
  refine P_ld 3 (.int (i32 1)) rfl (fun _ => rfl) ?_
  refine P_ifN 13 6 rfl rfl rfl (l32 1 rfl) (by unfold cz; decide) ?_
  refine P_ld 7 (.ref 1000003) rfl (fun _ => rfl) ?_
  refine P_ld1 10 (.int (i32 0)) rfl (fun _ => rfl) ?_
  refine P_goto 14 rfl (fun _ => rfl) ?_
  exact dg_String_coder_b20001_14 w c N D bb 0 (l32 0 rfl) m hm (jk [])
def kf_String_length_b20001 (m : mR) : Option Int :=
  some (shr32 7 0)
theorem D_String_length_b20001 (w : wX) (m : mR) (c : Nat → Option am_C) (N D : Nat) (hm : KCn m) : PC w D 3 [.ref 1000003] (khp m c, N) (QS (FP1 (khp m c, N)) (kf_String_length_b20001 m)) := by
  refine Pc_of (fun D bb => ?_) D
  unfold kf_String_length_b20001
  show PP bb w D pm_3 (0, [(0, .ref 1000003)], [], (khp (mO m [] []) c, N), 0, 0) _
  refine P_ld 1 (.ref 1000003) rfl (fun _ => rfl) ?_
  refine P_ld1 4 (.ref 1000004) rfl (fun _ => rfl) ?_
  refine P_ld1 5 (.int (i32 7)) rfl (fun _ => rfl) ?_
  refine P_ld 6 (.ref 1000003) rfl (fun _ => rfl) ?_
  refine P_cq1 9 4 [.ref 1000003] [.int (i32 7)] 0 rfl (fun _ => rfl) rfl (D_String_coder_b20001 w m c N D hm) rfl ?_
  refine P_op 10 (shr32 7 0) _ rfl (fun _ => rfl) (i32_of _).symm ?_
  exact P_rp1 rfl t32_r
def kf_tx_makeName (v1 : Int) (v2 : Int) (m : mR) : Option (Int × mR) :=
  if (90 : Int) ≤ m.1 203 then
    some (0, m)
  else
    some (0, (mO m [(203, cut ((m.1 203) + 1))] [(6, upI (m.2 6) (m.1 203) (m.1 209)), (7, upI (m.2 7) (m.1 203) (m.1 210)), (8, upI (m.2 8) (m.1 203) v1), (9, upI (m.2 9) (m.1 203) v2)]))
theorem D_tx_makeName (w : wX) (m : mR) (c : Nat → Option am_C) (N D : Nat) (hm : KCn m) (v1 : Int) (v2 : Int) (q1 : R32 v1) (q2 : R32 v2) : PC w D 49 [.ref 6, .int (i32 v1), .int (i32 v2)] (khp m c, N) (QS (FK0 c N) (kf_tx_makeName v1 v2 m)) := by
  refine Pc_of (fun D bb => ?_) D
  unfold kf_tx_makeName
  show PP bb w D pm_49 (0, [(0, .ref 6), (1, .int (i32 v1)), (2, .int (i32 v2))], [], (khp (mO m [] []) c, N), 0, 0) _
  refine P_ld 1 (.ref 6) rfl (fun _ => rfl) ?_
  refine PK_gf 4 (.int (i32 (m.1 203))) rfl rfl kd_6 rfl rfl rfl ?_
  refine P_ld 6 (.int (i32 90)) rfl (fun _ => rfl) ?_
  refine P_icF 65 9 rfl rfl rfl (KCn_i hm 203 rfl) (l32 90 rfl) rfl (fun h1 => ?_) (fun h1 => ?_)
  · skip
    exact P_rk0 rfl rfl hm
  · skip
    refine P_ld 10 (.ref 6) rfl (fun _ => rfl) ?_
    refine PK_gf 13 (.ref 8) rfl rfl kd_6 rfl rfl rfl ?_
    refine P_ld 14 (.ref 6) rfl (fun _ => rfl) ?_
    refine PK_gf 17 (.int (i32 (m.1 203))) rfl rfl kd_6 rfl rfl rfl ?_
    refine P_ld 18 (.ref 6) rfl (fun _ => rfl) ?_
    refine PK_gf 21 (.long (i64 (m.1 209))) rfl rfl kd_6 rfl rfl rfl ?_
    refine PK_last2 (a' := [(6, upI (m.2 6) (m.1 203) (m.1 209))]) 22 6 (m.2 6) rfl rfl rfl (KCn_i hm 203 rfl) rfl rfl ?_
    refine P_ld 23 (.ref 6) rfl (fun _ => rfl) ?_
    refine PK_gf 26 (.ref 9) rfl rfl kd_6 rfl rfl rfl ?_
    refine P_ld 27 (.ref 6) rfl (fun _ => rfl) ?_
    refine PK_gf 30 (.int (i32 (m.1 203))) rfl rfl kd_6 rfl rfl rfl ?_
    refine P_ld 31 (.ref 6) rfl (fun _ => rfl) ?_
    refine PK_gf 34 (.long (i64 (m.1 210))) rfl rfl kd_6 rfl rfl rfl ?_
    refine PK_last2 (a' := [(6, upI (m.2 6) (m.1 203) (m.1 209)), (7, upI (m.2 7) (m.1 203) (m.1 210))]) 35 7 (m.2 7) rfl rfl rfl (KCn_i hm 203 rfl) rfl rfl ?_
    refine P_ld 36 (.ref 6) rfl (fun _ => rfl) ?_
    refine PK_gf 39 (.ref 10) rfl rfl kd_6 rfl rfl rfl ?_
    refine P_ld 40 (.ref 6) rfl (fun _ => rfl) ?_
    refine PK_gf 43 (.int (i32 (m.1 203))) rfl rfl kd_6 rfl rfl rfl ?_
    refine P_ld 44 (.int (i32 v1)) rfl (fun _ => rfl) ?_
    refine PK_iast2 (a' := [(6, upI (m.2 6) (m.1 203) (m.1 209)), (7, upI (m.2 7) (m.1 203) (m.1 210)), (8, upI (m.2 8) (m.1 203) v1)]) 45 8 (m.2 8) rfl rfl rfl (KCn_i hm 203 rfl) rfl rfl ?_
    refine P_ld 46 (.ref 6) rfl (fun _ => rfl) ?_
    refine PK_gf 49 (.ref 11) rfl rfl kd_6 rfl rfl rfl ?_
    refine P_ld 50 (.ref 6) rfl (fun _ => rfl) ?_
    refine PK_gf 53 (.int (i32 (m.1 203))) rfl rfl kd_6 rfl rfl rfl ?_
    refine P_ld 54 (.int (i32 v2)) rfl (fun _ => rfl) ?_
    refine PK_iast2 (a' := [(6, upI (m.2 6) (m.1 203) (m.1 209)), (7, upI (m.2 7) (m.1 203) (m.1 210)), (8, upI (m.2 8) (m.1 203) v1), (9, upI (m.2 9) (m.1 203) v2)]) 55 9 (m.2 9) rfl rfl rfl (KCn_i hm 203 rfl) rfl rfl ?_
    refine P_ld 56 (.ref 6) rfl (fun _ => rfl) ?_
    refine P_ld 57 (.ref 6) rfl (fun _ => rfl) ?_
    refine PK_gf 60 (.int (i32 (m.1 203))) rfl rfl kd_6 rfl rfl rfl ?_
    refine P_ld 61 (.int (i32 1)) rfl (fun _ => rfl) ?_
    refine P_op 62 (cut ((m.1 203) + 1)) _ rfl (fun _ => rfl) o_add ?_
    refine PK_pf (l' := [(203, cut ((m.1 203) + 1))]) 65 (cut ((m.1 203) + 1)) rfl rfl kd_6 rfl rfl rfl rfl rfl rfl rfl ?_
    exact P_rk0 rfl rfl (KCn_mO hm rfl rfl ⟨(kV_i rfl cut_r), trivial⟩ ⟨(kE_ul (KCn_a hm 6) rfl (KCn_l hm 209 rfl)), (kE_ul (KCn_a hm 7) rfl (KCn_l hm 210 rfl)), (kE_ui (KCn_a hm 8) rfl q1), (kE_ui (KCn_a hm 9) rfl q2), trivial⟩)
def kfl_String_isLatin1_b20001_18 (u0 : Int) (m : mR) : Option Int :=
  some u0
theorem dg_String_isLatin1_b20001_18 (w : wX) (c : Nat → Option am_C) (N D : Nat) (bb : Nat) (u0 : Int) (r0 : R32 u0) (m : mR) (hm : KCn m) (j : Nat → Int) : PP bb w D pm_6 (18, [(0, .ref 1000003)], [.int (i32 u0)], (khp m c, N), 0, 0) (QS (FP1 (khp m c, N)) (kfl_String_isLatin1_b20001_18 u0 m)) := by
  unfold kfl_String_isLatin1_b20001_18
  show PP bb w D pm_6 (18, [(0, .ref 1000003)], [.int (i32 u0)], (khp (mO m [] []) c, N), 0, 0) _
  exact P_rp1 rfl r0
def kf_String_isLatin1_b20001 (m : mR) : Option Int :=
  kfl_String_isLatin1_b20001_18 1 m
theorem D_String_isLatin1_b20001 (w : wX) (m : mR) (c : Nat → Option am_C) (N D : Nat) (hm : KCn m) : PC w D 6 [.ref 1000003] (khp m c, N) (QS (FP1 (khp m c, N)) (kf_String_isLatin1_b20001 m)) := by
  refine Pc_of (fun D bb => ?_) D
  unfold kf_String_isLatin1_b20001
  show PP bb w D pm_6 (0, [(0, .ref 1000003)], [], (khp (mO m [] []) c, N), 0, 0) _
  refine P_ld 3 (.int (i32 1)) rfl (fun _ => rfl) ?_
  refine P_ifN 17 6 rfl rfl rfl (l32 1 rfl) (by unfold cz; decide) ?_
  refine P_ld 7 (.ref 1000003) rfl (fun _ => rfl) ?_
  refine P_ld1 10 (.int (i32 0)) rfl (fun _ => rfl) ?_
  refine P_ifN 17 13 rfl rfl rfl (l32 0 rfl) (by unfold cz; decide) ?_
  refine P_ld 14 (.int (i32 1)) rfl (fun _ => rfl) ?_
  refine P_goto 18 rfl (fun _ => rfl) ?_
  exact dg_String_isLatin1_b20001_18 w c N D bb 1 (l32 1 rfl) m hm (jk [])
def kfl_Preconditions_checkIndex_9 (v0 : Int) (v1 : Int) (m : mR) : Option Int :=
  none
theorem dg_Preconditions_checkIndex_9 (w : wX) (c : Nat → Option am_C) (N D : Nat) (bb : Nat) (v0 : Int) (v1 : Int) (q0 : R32 v0) (q1 : R32 v1) (m : mR) (hm : KCn m) (j : Nat → Int) : PP bb w D pm_9 (9, [(0, .int (i32 v0)), (1, .int (i32 v1)), (2, w.2.2.2)], [], (khp m c, N), 0, 0) (QS (FP1 (khp m c, N)) (kfl_Preconditions_checkIndex_9 v0 v1 m)) := by
  unfold kfl_Preconditions_checkIndex_9
  show PP bb w D pm_9 (9, [(0, .int (i32 v0)), (1, .int (i32 v1)), (2, w.2.2.2)], [], (khp (mO m [] []) c, N), 0, 0) _
  refine P_aldx 10 (w.2.2.2) rfl rfl rfl ?_
  refine P_ld 11 (.int (i32 v0)) rfl (fun _ => rfl) ?_
  refine P_ld 12 (.int (i32 v1)) rfl (fun _ => rfl) ?_
  exact P_nil rfl
def kf_Preconditions_checkIndex (v0 : Int) (v1 : Int) (m : mR) : Option Int :=
  if v0 < 0 then
    kfl_Preconditions_checkIndex_9 v0 v1 m
  else
    if v0 < v1 then
      some v0
    else
      kfl_Preconditions_checkIndex_9 v0 v1 m
theorem D_Preconditions_checkIndex (w : wX) (m : mR) (c : Nat → Option am_C) (N D : Nat) (hm : KCn m) (v0 : Int) (v1 : Int) (q0 : R32 v0) (q1 : R32 v1) : PC w D 9 [.int (i32 v0), .int (i32 v1), w.2.2.2] (khp m c, N) (QS (FP1 (khp m c, N)) (kf_Preconditions_checkIndex v0 v1 m)) := by
  refine Pc_of (fun D bb => ?_) D
  unfold kf_Preconditions_checkIndex
  show PP bb w D pm_9 (0, [(0, .int (i32 v0)), (1, .int (i32 v1)), (2, w.2.2.2)], [], (khp (mO m [] []) c, N), 0, 0) _
  refine P_ld 1 (.int (i32 v0)) rfl (fun _ => rfl) ?_
  refine P_ifF 9 4 rfl rfl rfl q0 rfl (fun h1 => ?_) (fun h1 => ?_)
  · skip
    exact dg_Preconditions_checkIndex_9 w c N D bb v0 v1 q0 q1 m hm (jk [])
  · skip
    refine P_ld 5 (.int (i32 v0)) rfl (fun _ => rfl) ?_
    refine P_ld 6 (.int (i32 v1)) rfl (fun _ => rfl) ?_
    refine P_icF 16 9 rfl rfl rfl q0 q1 rfl (fun h2 => ?_) (fun h2 => ?_)
    · skip
      refine P_ld 17 (.int (i32 v0)) rfl (fun _ => rfl) ?_
      exact P_rp1 rfl q0
    · skip
      exact dg_Preconditions_checkIndex_9 w c N D bb v0 v1 q0 q1 m hm (jk [])
def kf_String_checkIndex (v0 : Int) (v1 : Int) (m : mR) : Option Int :=
  bnd (kf_Preconditions_checkIndex v0 v1 m) fun y1 =>
  some 0
theorem D_String_checkIndex (w : wX) (m : mR) (c : Nat → Option am_C) (N D : Nat) (hm : KCn m) (v0 : Int) (v1 : Int) (q0 : R32 v0) (q1 : R32 v1) : PC w D 8 [.int (i32 v0), .int (i32 v1)] (khp m c, N) (QS (FP0 (khp m c, N)) (kf_String_checkIndex v0 v1 m)) := by
  refine Pc_of (fun D bb => ?_) D
  unfold kf_String_checkIndex
  show PP bb w D pm_8 (0, [(0, .int (i32 v0)), (1, .int (i32 v1))], [], (khp (mO m [] []) c, N), 0, 0) _
  refine P_ld 1 (.int (i32 v0)) rfl (fun _ => rfl) ?_
  refine P_ld 2 (.int (i32 v1)) rfl (fun _ => rfl) ?_
  refine P_ld 5 (w.2.2.2) rfl (fun _ => rfl) ?_
  refine P_cp1 8 9 [.int (i32 v0), .int (i32 v1), w.2.2.2] [] rfl (fun _ => rfl) rfl (D_Preconditions_checkIndex w m c N D hm v0 v1 q0 q1) (fun y1 h2 => ?_)
  refine P_pop 9 rfl (fun _ => rfl) ?_
  exact P_rp0 rfl rfl
def kf_StringLatin1_charAt_b10001 (v1 : Int) (m : mR) : Option Int :=
  bnd (kf_String_checkIndex v1 7 m) fun y1 =>
  some (i2c32 (and32 (chr 1 v1) 255))
theorem D_StringLatin1_charAt_b10001 (w : wX) (m : mR) (c : Nat → Option am_C) (N D : Nat) (hm : KCn m) (v1 : Int) (q1 : R32 v1) : PC w D 7 [.ref 1000004, .int (i32 v1)] (khp m c, N) (QS (FP1 (khp m c, N)) (kf_StringLatin1_charAt_b10001 v1 m)) := by
  refine Pc_of (fun D bb => ?_) D
  unfold kf_StringLatin1_charAt_b10001
  show PP bb w D pm_7 (0, [(0, .ref 1000004), (1, .int (i32 v1))], [], (khp (mO m [] []) c, N), 0, 0) _
  refine P_ld 1 (.int (i32 v1)) rfl (fun _ => rfl) ?_
  refine P_ld 2 (.ref 1000004) rfl (fun _ => rfl) ?_
  refine P_ld1 3 (.int (i32 7)) rfl (fun _ => rfl) ?_
  refine P_cp0 6 8 [.int (i32 v1), .int (i32 7)] [] rfl (fun _ => rfl) rfl (D_String_checkIndex w m c N D hm v1 7 q1 (l32 7 rfl)) (fun y1 => ?_)
  refine P_ld 7 (.ref 1000004) rfl (fun _ => rfl) ?_
  refine P_ld 8 (.int (i32 v1)) rfl (fun _ => rfl) ?_
  refine P_xbald 9 1 7 rfl rfl rfl q1 ?_
  refine P_ld 12 (.int (i32 255)) rfl (fun _ => rfl) ?_
  refine P_op 13 (and32 (chr 1 v1) 255) _ rfl (fun _ => rfl) (i32_of _).symm ?_
  refine P_op 14 (i2c32 (and32 (chr 1 v1) 255)) _ rfl (fun _ => rfl) (i32_of _).symm ?_
  exact P_rp1 rfl t32_r
def kf_String_charAt_b20001 (v1 : Int) (m : mR) : Option Int :=
  bnd (kf_StringLatin1_charAt_b10001 v1 m) fun y2 =>
  some y2
theorem D_String_charAt_b20001 (w : wX) (m : mR) (c : Nat → Option am_C) (N D : Nat) (hm : KCn m) (v1 : Int) (q1 : R32 v1) : PC w D 5 [.ref 1000003, .int (i32 v1)] (khp m c, N) (QS (FP1 (khp m c, N)) (kf_String_charAt_b20001 v1 m)) := by
  refine Pc_of (fun D bb => ?_) D
  unfold kf_String_charAt_b20001
  show PP bb w D pm_5 (0, [(0, .ref 1000003), (1, .int (i32 v1))], [], (khp (mO m [] []) c, N), 0, 0) _
  refine P_ld 1 (.ref 1000003) rfl (fun _ => rfl) ?_
  refine P_cq1 4 6 [.ref 1000003] [] 1 rfl (fun _ => rfl) rfl (D_String_isLatin1_b20001 w m c N D hm) rfl ?_
  refine P_ifN 16 7 rfl rfl rfl (l32 1 rfl) (by unfold cz; decide) ?_
  refine P_ld 8 (.ref 1000003) rfl (fun _ => rfl) ?_
  refine P_ld1 11 (.ref 1000004) rfl (fun _ => rfl) ?_
  refine P_ld 12 (.int (i32 v1)) rfl (fun _ => rfl) ?_
  refine P_cp1 15 7 [.ref 1000004, .int (i32 v1)] [] rfl (fun _ => rfl) rfl (D_StringLatin1_charAt_b10001 w m c N D hm v1 q1) (fun y2 h3 => ?_)
  exact P_rp1 rfl h3
def cs_tx_makeGiven_b20001_13 (s : Int × mR) : Prop := R32 s.1 ∧ KCn s.2
def cx_tx_makeGiven_b20001_13 : (mR) → Prop := (fun (e : mR) => KCn e)
def hd_tx_makeGiven_b20001_13 (c : Nat → Option am_C) (N : Nat) (v2 : Int) (v3 : Int) (s : Int × mR) (j : Nat → Int) : ag_St af_T := (13, [(0, .ref 6), (1, .ref 1000003), (2, .int (i32 v2)), (3, .int (i32 v3)), (4, .int (i32 s.1))], [], (khp s.2 c, N), 0, 0)
def ex_tx_makeGiven_b20001_13 (c : Nat → Option am_C) (N : Nat) (v2 : Int) (v3 : Int) : (mR) → (Nat → Int) → ag_St af_T := (fun (e : mR) (j : Nat → Int) => ((60, [(0, .ref 6), (1, .ref 1000003), (2, .int (i32 v2)), (3, .int (i32 v3)), (4, .int (i32 (j 4)))], [], (khp e c, N), 0, 0) : ag_St af_T))
def kfl_tx_makeGiven_b20001_60 (v2 : Int) (v3 : Int) (m : mR) : Option (Int × mR) :=
  bnd (kf_tx_makeName v2 v3 m) fun y2 =>
  some (0, y2.2)
theorem dg_tx_makeGiven_b20001_60 (w : wX) (c : Nat → Option am_C) (N D : Nat) (bb : Nat) (v2 : Int) (v3 : Int) (q2 : R32 v2) (q3 : R32 v3) (m : mR) (hm : KCn m) (j : Nat → Int) : PP bb w D pm_48 (60, [(0, .ref 6), (1, .ref 1000003), (2, .int (i32 v2)), (3, .int (i32 v3)), (4, .int (i32 (j 4)))], [], (khp m c, N), 0, 0) (QS (FK0 c N) (kfl_tx_makeGiven_b20001_60 v2 v3 m)) := by
  unfold kfl_tx_makeGiven_b20001_60
  show PP bb w D pm_48 (60, [(0, .ref 6), (1, .ref 1000003), (2, .int (i32 v2)), (3, .int (i32 v3)), (4, .int (i32 (j 4)))], [], (khp (mO m [] []) c, N), 0, 0) _
  refine P_ld 61 (.ref 6) rfl (fun _ => rfl) ?_
  refine P_ld 62 (.int (i32 v2)) rfl (fun _ => rfl) ?_
  refine P_ld 63 (.int (i32 v3)) rfl (fun _ => rfl) ?_
  refine P_ck0 66 49 [.ref 6, .int (i32 v2), .int (i32 v3)] [] rfl (fun _ => rfl) rfl (D_tx_makeName w m c N D hm v2 v3 q2 q3) (fun y2 n4 => ?_)
  exact P_rk0 rfl rfl n4
def kfb_tx_makeGiven_b20001_13 (v2 : Int) (v3 : Int) (s : Int × mR) : Option (Sum (Int × mR) (mR)) :=
  bnd (kf_String_length_b20001 s.2) fun y6 =>
  if y6 ≤ s.1 then
    some (.inr s.2)
  else
    if (8 : Int) ≤ s.1 then
      some (.inr s.2)
    else
      bnd (kf_String_charAt_b20001 s.1 s.2) fun y11 =>
      some (.inl (cut (s.1 + 1), (mO s.2 [(209, or64 (s.2.1 209) (shl64 y11 (cut (56 - (cut (8 * s.1))))))] [])))
theorem dh_tx_makeGiven_b20001_13 (w : wX) (c : Nat → Option am_C) (N D : Nat) (v2 : Int) (v3 : Int) (q2 : R32 v2) (q3 : R32 v3) (bb : Nat) (Q2 : Sum (Int × mR) (mR) → ag_Re af_T → Prop) (H1 : ∀ s j, cs_tx_makeGiven_b20001_13 s → PP bb w D pm_48 (hd_tx_makeGiven_b20001_13 c N v2 v3 s j) (Q2 (.inl s))) (H2 : ∀ x j, cx_tx_makeGiven_b20001_13 x → PP bb w D pm_48 (ex_tx_makeGiven_b20001_13 c N v2 v3 x j) (Q2 (.inr x))) (s : Int × mR) (j : Nat → Int) (hs : cs_tx_makeGiven_b20001_13 s) : PP (bb + 1) w D pm_48 (hd_tx_makeGiven_b20001_13 c N v2 v3 s j) (QS Q2 (kfb_tx_makeGiven_b20001_13 v2 v3 s)) := by
  obtain ⟨g4, gm⟩ := hs
  unfold kfb_tx_makeGiven_b20001_13
  show PP (bb + 1) w D pm_48 (13, [(0, .ref 6), (1, .ref 1000003), (2, .int (i32 v2)), (3, .int (i32 v3)), (4, .int (i32 s.1))], [], (khp (mO s.2 [] []) c, N), 0, 0) _
  refine P1_ld 15 (.int (i32 s.1)) rfl (fun _ => rfl) ?_
  refine P_ld 16 (.ref 1000003) rfl (fun _ => rfl) ?_
  refine P_cp1 19 3 [.ref 1000003] [.int (i32 s.1)] rfl (fun _ => rfl) rfl (D_String_length_b20001 w s.2 c N D gm) (fun y6 h7 => ?_)
  refine P_icF 60 22 rfl rfl rfl g4 h7 rfl (fun h9 => ?_) (fun h9 => ?_)
  · skip
    refine P_some ?_
    exact H2 s.2 (jk [(4, s.1)]) gm
  · skip
    refine P_ld 24 (.int (i32 s.1)) rfl (fun _ => rfl) ?_
    refine P_ld 26 (.int (i32 8)) rfl (fun _ => rfl) ?_
    refine P_icF 60 29 rfl rfl rfl g4 (l32 8 rfl) rfl (fun h10 => ?_) (fun h10 => ?_)
    · skip
      refine P_some ?_
      exact H2 s.2 (jk [(4, s.1)]) gm
    · skip
      refine P_ld 30 (.ref 6) rfl (fun _ => rfl) ?_
      refine P_ld 31 (.ref 6) rfl (fun _ => rfl) ?_
      refine PK_gf 34 (.long (i64 (s.2.1 209))) rfl rfl kd_6 rfl rfl rfl ?_
      refine P_ld 35 (.ref 1000003) rfl (fun _ => rfl) ?_
      refine P_ld 37 (.int (i32 s.1)) rfl (fun _ => rfl) ?_
      refine P_cp1 40 5 [.ref 1000003, .int (i32 s.1)] [.long (i64 (s.2.1 209)), .ref 6] rfl (fun _ => rfl) rfl (D_String_charAt_b20001 w s.2 c N D gm s.1 g4) (fun y11 h12 => ?_)
      refine P_opl 41 y11 _ rfl (fun _ => rfl) (o_i2l h12) ?_
      refine P_ld 43 (.int (i32 56)) rfl (fun _ => rfl) ?_
      refine P_ld 45 (.int (i32 8)) rfl (fun _ => rfl) ?_
      refine P_ld 47 (.int (i32 s.1)) rfl (fun _ => rfl) ?_
      refine P_op 48 (cut (8 * s.1)) _ rfl (fun _ => rfl) o_mul ?_
      refine P_op 49 (cut (56 - (cut (8 * s.1)))) _ rfl (fun _ => rfl) o_sub ?_
      refine P_opl 50 (shl64 y11 (cut (56 - (cut (8 * s.1))))) _ rfl (fun _ => rfl) (Int64.ofInt_toInt _).symm ?_
      refine P_opl 51 (or64 (s.2.1 209) (shl64 y11 (cut (56 - (cut (8 * s.1)))))) _ rfl (fun _ => rfl) (Int64.ofInt_toInt _).symm ?_
      refine PK_pf (l' := [(209, or64 (s.2.1 209) (shl64 y11 (cut (56 - (cut (8 * s.1))))))]) 54 (or64 (s.2.1 209) (shl64 y11 (cut (56 - (cut (8 * s.1)))))) rfl rfl kd_6 rfl rfl rfl rfl rfl rfl rfl ?_
      refine P_inc 57 [(4, .int (i32 (cut (s.1 + 1)))), (0, .ref 6), (1, .ref 1000003), (2, .int (i32 v2)), (3, .int (i32 v3))] rfl rfl (by decide) rfl rfl ?_
      refine P_goto 13 rfl (fun _ => rfl) ?_
      refine P_some ?_
      refine P_lv (b := [(0, .ref 6), (1, .ref 1000003), (2, .int (i32 v2)), (3, .int (i32 v3)), (4, .int (i32 (cut (s.1 + 1))))]) rfl rfl ⟨rfl, rfl, rfl, rfl, rfl, trivial⟩ ?_
      exact H1 (cut (s.1 + 1), (mO s.2 [(209, or64 (s.2.1 209) (shl64 y11 (cut (56 - (cut (8 * s.1))))))] [])) (jk []) ⟨cut_r, (KCn_mO gm rfl rfl ⟨(kV_l rfl t64_r), trivial⟩ trivial)⟩
def kf_tx_makeGiven_b20001 (v2 : Int) (v3 : Int) (m : mR) : Option (Int × mR) :=
  bnd (whl (kfb_tx_makeGiven_b20001_13 v2 v3) (0, (mO m [(209, 0), (210, 0)] []))) (fun e14 : mR =>
    kfl_tx_makeGiven_b20001_60 v2 v3 e14)
theorem D_tx_makeGiven_b20001 (w : wX) (m : mR) (c : Nat → Option am_C) (N D : Nat) (hm : KCn m) (v2 : Int) (v3 : Int) (q2 : R32 v2) (q3 : R32 v3) : PC w D 48 [.ref 6, .ref 1000003, .int (i32 v2), .int (i32 v3)] (khp m c, N) (QS (FK0 c N) (kf_tx_makeGiven_b20001 v2 v3 m)) := by
  refine Pc_of (fun D bb => ?_) D
  unfold kf_tx_makeGiven_b20001
  show PP bb w D pm_48 (0, [(0, .ref 6), (1, .ref 1000003), (2, .int (i32 v2)), (3, .int (i32 v3))], [], (khp (mO m [] []) c, N), 0, 0) _
  refine P_ld 1 (.ref 6) rfl (fun _ => rfl) ?_
  refine P_ld 2 (.long (i64 0)) rfl (fun _ => rfl) ?_
  refine PK_pf (l' := [(209, 0)]) 5 0 rfl rfl kd_6 rfl rfl rfl rfl rfl rfl rfl ?_
  refine P_ld 6 (.ref 6) rfl (fun _ => rfl) ?_
  refine P_ld 7 (.long (i64 0)) rfl (fun _ => rfl) ?_
  refine PK_pf (l' := [(209, 0), (210, 0)]) 10 0 rfl rfl kd_6 rfl rfl rfl rfl rfl rfl rfl ?_
  refine P_ld 11 (.int (i32 0)) rfl (fun _ => rfl) ?_
  refine P_sto 13 [(4, .int (i32 0)), (0, .ref 6), (1, .ref 1000003), (2, .int (i32 v2)), (3, .int (i32 v3))] rfl (fun _ => rfl) ?_
  refine P_lv (b := [(0, .ref 6), (1, .ref 1000003), (2, .int (i32 v2)), (3, .int (i32 v3)), (4, .int (i32 0))]) rfl rfl ⟨rfl, rfl, rfl, rfl, rfl, trivial⟩ ?_
  refine P_bnd ?_
  refine P_whl (fun bb Q2 H1 H2 s9 j9 hs9 => dh_tx_makeGiven_b20001_13 w c N D v2 v3 q2 q3 bb Q2 H1 H2 s9 j9 hs9) bb (fun e14 j q15 => ?_) (0, (mO m [(209, 0), (210, 0)] [])) (jk []) ⟨(l32 0 rfl), (KCn_mO hm rfl rfl ⟨(kV_l rfl (l64 0 rfl)), (kV_l rfl (l64 0 rfl)), trivial⟩ trivial)⟩
  have q16 := q15
  show PP bb w D pm_48 (60, [(0, .ref 6), (1, .ref 1000003), (2, .int (i32 v2)), (3, .int (i32 v3)), (4, .int (i32 (j 4)))], [], (khp (mO e14 [] []) c, N), 0, 0) (QS _ (kfl_tx_makeGiven_b20001_60 v2 v3 e14))
  exact dg_tx_makeGiven_b20001_60 w c N D bb v2 v3 q2 q3 e14 q16 (jk [(4, j 4)])
def kfl_String_coder_b20002_14 (u0 : Int) (m : mR) : Option Int :=
  some u0
theorem dg_String_coder_b20002_14 (w : wX) (c : Nat → Option am_C) (N D : Nat) (bb : Nat) (u0 : Int) (r0 : R32 u0) (m : mR) (hm : KCn m) (j : Nat → Int) : PP bb w D pm_4 (14, [(0, .ref 1000005)], [.int (i32 u0)], (khp m c, N), 0, 0) (QS (FP1 (khp m c, N)) (kfl_String_coder_b20002_14 u0 m)) := by
  unfold kfl_String_coder_b20002_14
  show PP bb w D pm_4 (14, [(0, .ref 1000005)], [.int (i32 u0)], (khp (mO m [] []) c, N), 0, 0) _
  exact P_rp1 rfl r0
def kf_String_coder_b20002 (m : mR) : Option Int :=
  kfl_String_coder_b20002_14 0 m
theorem D_String_coder_b20002 (w : wX) (m : mR) (c : Nat → Option am_C) (N D : Nat) (hm : KCn m) : PC w D 4 [.ref 1000005] (khp m c, N) (QS (FP1 (khp m c, N)) (kf_String_coder_b20002 m)) := by
  refine Pc_of (fun D bb => ?_) D
  unfold kf_String_coder_b20002
  show PP bb w D pm_4 (0, [(0, .ref 1000005)], [], (khp (mO m [] []) c, N), 0, 0) _
  refine P_ld 3 (.int (i32 1)) rfl (fun _ => rfl) ?_
  refine P_ifN 13 6 rfl rfl rfl (l32 1 rfl) (by unfold cz; decide) ?_
  refine P_ld 7 (.ref 1000005) rfl (fun _ => rfl) ?_
  refine P_ld1 10 (.int (i32 0)) rfl (fun _ => rfl) ?_
  refine P_goto 14 rfl (fun _ => rfl) ?_
  exact dg_String_coder_b20002_14 w c N D bb 0 (l32 0 rfl) m hm (jk [])
def kf_String_length_b20002 (m : mR) : Option Int :=
  some (shr32 6 0)
theorem D_String_length_b20002 (w : wX) (m : mR) (c : Nat → Option am_C) (N D : Nat) (hm : KCn m) : PC w D 3 [.ref 1000005] (khp m c, N) (QS (FP1 (khp m c, N)) (kf_String_length_b20002 m)) := by
  refine Pc_of (fun D bb => ?_) D
  unfold kf_String_length_b20002
  show PP bb w D pm_3 (0, [(0, .ref 1000005)], [], (khp (mO m [] []) c, N), 0, 0) _
  refine P_ld 1 (.ref 1000005) rfl (fun _ => rfl) ?_
  refine P_ld1 4 (.ref 1000006) rfl (fun _ => rfl) ?_
  refine P_ld1 5 (.int (i32 6)) rfl (fun _ => rfl) ?_
  refine P_ld 6 (.ref 1000005) rfl (fun _ => rfl) ?_
  refine P_cq1 9 4 [.ref 1000005] [.int (i32 6)] 0 rfl (fun _ => rfl) rfl (D_String_coder_b20002 w m c N D hm) rfl ?_
  refine P_op 10 (shr32 6 0) _ rfl (fun _ => rfl) (i32_of _).symm ?_
  exact P_rp1 rfl t32_r
def kfl_String_isLatin1_b20002_18 (u0 : Int) (m : mR) : Option Int :=
  some u0
theorem dg_String_isLatin1_b20002_18 (w : wX) (c : Nat → Option am_C) (N D : Nat) (bb : Nat) (u0 : Int) (r0 : R32 u0) (m : mR) (hm : KCn m) (j : Nat → Int) : PP bb w D pm_6 (18, [(0, .ref 1000005)], [.int (i32 u0)], (khp m c, N), 0, 0) (QS (FP1 (khp m c, N)) (kfl_String_isLatin1_b20002_18 u0 m)) := by
  unfold kfl_String_isLatin1_b20002_18
  show PP bb w D pm_6 (18, [(0, .ref 1000005)], [.int (i32 u0)], (khp (mO m [] []) c, N), 0, 0) _
  exact P_rp1 rfl r0
def kf_String_isLatin1_b20002 (m : mR) : Option Int :=
  kfl_String_isLatin1_b20002_18 1 m
theorem D_String_isLatin1_b20002 (w : wX) (m : mR) (c : Nat → Option am_C) (N D : Nat) (hm : KCn m) : PC w D 6 [.ref 1000005] (khp m c, N) (QS (FP1 (khp m c, N)) (kf_String_isLatin1_b20002 m)) := by
  refine Pc_of (fun D bb => ?_) D
  unfold kf_String_isLatin1_b20002
  show PP bb w D pm_6 (0, [(0, .ref 1000005)], [], (khp (mO m [] []) c, N), 0, 0) _
  refine P_ld 3 (.int (i32 1)) rfl (fun _ => rfl) ?_
  refine P_ifN 17 6 rfl rfl rfl (l32 1 rfl) (by unfold cz; decide) ?_
  refine P_ld 7 (.ref 1000005) rfl (fun _ => rfl) ?_
  refine P_ld1 10 (.int (i32 0)) rfl (fun _ => rfl) ?_
  refine P_ifN 17 13 rfl rfl rfl (l32 0 rfl) (by unfold cz; decide) ?_
  refine P_ld 14 (.int (i32 1)) rfl (fun _ => rfl) ?_
  refine P_goto 18 rfl (fun _ => rfl) ?_
  exact dg_String_isLatin1_b20002_18 w c N D bb 1 (l32 1 rfl) m hm (jk [])
def kf_StringLatin1_charAt_b10002 (v1 : Int) (m : mR) : Option Int :=
  bnd (kf_String_checkIndex v1 6 m) fun y1 =>
  some (i2c32 (and32 (chr 2 v1) 255))
theorem D_StringLatin1_charAt_b10002 (w : wX) (m : mR) (c : Nat → Option am_C) (N D : Nat) (hm : KCn m) (v1 : Int) (q1 : R32 v1) : PC w D 7 [.ref 1000006, .int (i32 v1)] (khp m c, N) (QS (FP1 (khp m c, N)) (kf_StringLatin1_charAt_b10002 v1 m)) := by
  refine Pc_of (fun D bb => ?_) D
  unfold kf_StringLatin1_charAt_b10002
  show PP bb w D pm_7 (0, [(0, .ref 1000006), (1, .int (i32 v1))], [], (khp (mO m [] []) c, N), 0, 0) _
  refine P_ld 1 (.int (i32 v1)) rfl (fun _ => rfl) ?_
  refine P_ld 2 (.ref 1000006) rfl (fun _ => rfl) ?_
  refine P_ld1 3 (.int (i32 6)) rfl (fun _ => rfl) ?_
  refine P_cp0 6 8 [.int (i32 v1), .int (i32 6)] [] rfl (fun _ => rfl) rfl (D_String_checkIndex w m c N D hm v1 6 q1 (l32 6 rfl)) (fun y1 => ?_)
  refine P_ld 7 (.ref 1000006) rfl (fun _ => rfl) ?_
  refine P_ld 8 (.int (i32 v1)) rfl (fun _ => rfl) ?_
  refine P_xbald 9 2 6 rfl rfl rfl q1 ?_
  refine P_ld 12 (.int (i32 255)) rfl (fun _ => rfl) ?_
  refine P_op 13 (and32 (chr 2 v1) 255) _ rfl (fun _ => rfl) (i32_of _).symm ?_
  refine P_op 14 (i2c32 (and32 (chr 2 v1) 255)) _ rfl (fun _ => rfl) (i32_of _).symm ?_
  exact P_rp1 rfl t32_r
def kf_String_charAt_b20002 (v1 : Int) (m : mR) : Option Int :=
  bnd (kf_StringLatin1_charAt_b10002 v1 m) fun y2 =>
  some y2
theorem D_String_charAt_b20002 (w : wX) (m : mR) (c : Nat → Option am_C) (N D : Nat) (hm : KCn m) (v1 : Int) (q1 : R32 v1) : PC w D 5 [.ref 1000005, .int (i32 v1)] (khp m c, N) (QS (FP1 (khp m c, N)) (kf_String_charAt_b20002 v1 m)) := by
  refine Pc_of (fun D bb => ?_) D
  unfold kf_String_charAt_b20002
  show PP bb w D pm_5 (0, [(0, .ref 1000005), (1, .int (i32 v1))], [], (khp (mO m [] []) c, N), 0, 0) _
  refine P_ld 1 (.ref 1000005) rfl (fun _ => rfl) ?_
  refine P_cq1 4 6 [.ref 1000005] [] 1 rfl (fun _ => rfl) rfl (D_String_isLatin1_b20002 w m c N D hm) rfl ?_
  refine P_ifN 16 7 rfl rfl rfl (l32 1 rfl) (by unfold cz; decide) ?_
  refine P_ld 8 (.ref 1000005) rfl (fun _ => rfl) ?_
  refine P_ld1 11 (.ref 1000006) rfl (fun _ => rfl) ?_
  refine P_ld 12 (.int (i32 v1)) rfl (fun _ => rfl) ?_
  refine P_cp1 15 7 [.ref 1000006, .int (i32 v1)] [] rfl (fun _ => rfl) rfl (D_StringLatin1_charAt_b10002 w m c N D hm v1 q1) (fun y2 h3 => ?_)
  exact P_rp1 rfl h3
def cs_tx_makeGiven_b20002_13 (s : Int × mR) : Prop := R32 s.1 ∧ KCn s.2
def cx_tx_makeGiven_b20002_13 : (mR) → Prop := (fun (e : mR) => KCn e)
def hd_tx_makeGiven_b20002_13 (c : Nat → Option am_C) (N : Nat) (v2 : Int) (v3 : Int) (s : Int × mR) (j : Nat → Int) : ag_St af_T := (13, [(0, .ref 6), (1, .ref 1000005), (2, .int (i32 v2)), (3, .int (i32 v3)), (4, .int (i32 s.1))], [], (khp s.2 c, N), 0, 0)
def ex_tx_makeGiven_b20002_13 (c : Nat → Option am_C) (N : Nat) (v2 : Int) (v3 : Int) : (mR) → (Nat → Int) → ag_St af_T := (fun (e : mR) (j : Nat → Int) => ((60, [(0, .ref 6), (1, .ref 1000005), (2, .int (i32 v2)), (3, .int (i32 v3)), (4, .int (i32 (j 4)))], [], (khp e c, N), 0, 0) : ag_St af_T))
def kfl_tx_makeGiven_b20002_60 (v2 : Int) (v3 : Int) (m : mR) : Option (Int × mR) :=
  bnd (kf_tx_makeName v2 v3 m) fun y2 =>
  some (0, y2.2)
theorem dg_tx_makeGiven_b20002_60 (w : wX) (c : Nat → Option am_C) (N D : Nat) (bb : Nat) (v2 : Int) (v3 : Int) (q2 : R32 v2) (q3 : R32 v3) (m : mR) (hm : KCn m) (j : Nat → Int) : PP bb w D pm_48 (60, [(0, .ref 6), (1, .ref 1000005), (2, .int (i32 v2)), (3, .int (i32 v3)), (4, .int (i32 (j 4)))], [], (khp m c, N), 0, 0) (QS (FK0 c N) (kfl_tx_makeGiven_b20002_60 v2 v3 m)) := by
  unfold kfl_tx_makeGiven_b20002_60
  show PP bb w D pm_48 (60, [(0, .ref 6), (1, .ref 1000005), (2, .int (i32 v2)), (3, .int (i32 v3)), (4, .int (i32 (j 4)))], [], (khp (mO m [] []) c, N), 0, 0) _
  refine P_ld 61 (.ref 6) rfl (fun _ => rfl) ?_
  refine P_ld 62 (.int (i32 v2)) rfl (fun _ => rfl) ?_
  refine P_ld 63 (.int (i32 v3)) rfl (fun _ => rfl) ?_
  refine P_ck0 66 49 [.ref 6, .int (i32 v2), .int (i32 v3)] [] rfl (fun _ => rfl) rfl (D_tx_makeName w m c N D hm v2 v3 q2 q3) (fun y2 n4 => ?_)
  exact P_rk0 rfl rfl n4
def kfb_tx_makeGiven_b20002_13 (v2 : Int) (v3 : Int) (s : Int × mR) : Option (Sum (Int × mR) (mR)) :=
  bnd (kf_String_length_b20002 s.2) fun y6 =>
  if y6 ≤ s.1 then
    some (.inr s.2)
  else
    if (8 : Int) ≤ s.1 then
      some (.inr s.2)
    else
      bnd (kf_String_charAt_b20002 s.1 s.2) fun y11 =>
      some (.inl (cut (s.1 + 1), (mO s.2 [(209, or64 (s.2.1 209) (shl64 y11 (cut (56 - (cut (8 * s.1))))))] [])))
theorem dh_tx_makeGiven_b20002_13 (w : wX) (c : Nat → Option am_C) (N D : Nat) (v2 : Int) (v3 : Int) (q2 : R32 v2) (q3 : R32 v3) (bb : Nat) (Q2 : Sum (Int × mR) (mR) → ag_Re af_T → Prop) (H1 : ∀ s j, cs_tx_makeGiven_b20002_13 s → PP bb w D pm_48 (hd_tx_makeGiven_b20002_13 c N v2 v3 s j) (Q2 (.inl s))) (H2 : ∀ x j, cx_tx_makeGiven_b20002_13 x → PP bb w D pm_48 (ex_tx_makeGiven_b20002_13 c N v2 v3 x j) (Q2 (.inr x))) (s : Int × mR) (j : Nat → Int) (hs : cs_tx_makeGiven_b20002_13 s) : PP (bb + 1) w D pm_48 (hd_tx_makeGiven_b20002_13 c N v2 v3 s j) (QS Q2 (kfb_tx_makeGiven_b20002_13 v2 v3 s)) := by
  obtain ⟨g4, gm⟩ := hs
  unfold kfb_tx_makeGiven_b20002_13
  show PP (bb + 1) w D pm_48 (13, [(0, .ref 6), (1, .ref 1000005), (2, .int (i32 v2)), (3, .int (i32 v3)), (4, .int (i32 s.1))], [], (khp (mO s.2 [] []) c, N), 0, 0) _
  refine P1_ld 15 (.int (i32 s.1)) rfl (fun _ => rfl) ?_
  refine P_ld 16 (.ref 1000005) rfl (fun _ => rfl) ?_
  refine P_cp1 19 3 [.ref 1000005] [.int (i32 s.1)] rfl (fun _ => rfl) rfl (D_String_length_b20002 w s.2 c N D gm) (fun y6 h7 => ?_)
  refine P_icF 60 22 rfl rfl rfl g4 h7 rfl (fun h9 => ?_) (fun h9 => ?_)
  · skip
    refine P_some ?_
    exact H2 s.2 (jk [(4, s.1)]) gm
  · skip
    refine P_ld 24 (.int (i32 s.1)) rfl (fun _ => rfl) ?_
    refine P_ld 26 (.int (i32 8)) rfl (fun _ => rfl) ?_
    refine P_icF 60 29 rfl rfl rfl g4 (l32 8 rfl) rfl (fun h10 => ?_) (fun h10 => ?_)
    · skip
      refine P_some ?_
      exact H2 s.2 (jk [(4, s.1)]) gm
    · skip
      refine P_ld 30 (.ref 6) rfl (fun _ => rfl) ?_
      refine P_ld 31 (.ref 6) rfl (fun _ => rfl) ?_
      refine PK_gf 34 (.long (i64 (s.2.1 209))) rfl rfl kd_6 rfl rfl rfl ?_
      refine P_ld 35 (.ref 1000005) rfl (fun _ => rfl) ?_
      refine P_ld 37 (.int (i32 s.1)) rfl (fun _ => rfl) ?_
      refine P_cp1 40 5 [.ref 1000005, .int (i32 s.1)] [.long (i64 (s.2.1 209)), .ref 6] rfl (fun _ => rfl) rfl (D_String_charAt_b20002 w s.2 c N D gm s.1 g4) (fun y11 h12 => ?_)
      refine P_opl 41 y11 _ rfl (fun _ => rfl) (o_i2l h12) ?_
      refine P_ld 43 (.int (i32 56)) rfl (fun _ => rfl) ?_
      refine P_ld 45 (.int (i32 8)) rfl (fun _ => rfl) ?_
      refine P_ld 47 (.int (i32 s.1)) rfl (fun _ => rfl) ?_
      refine P_op 48 (cut (8 * s.1)) _ rfl (fun _ => rfl) o_mul ?_
      refine P_op 49 (cut (56 - (cut (8 * s.1)))) _ rfl (fun _ => rfl) o_sub ?_
      refine P_opl 50 (shl64 y11 (cut (56 - (cut (8 * s.1))))) _ rfl (fun _ => rfl) (Int64.ofInt_toInt _).symm ?_
      refine P_opl 51 (or64 (s.2.1 209) (shl64 y11 (cut (56 - (cut (8 * s.1)))))) _ rfl (fun _ => rfl) (Int64.ofInt_toInt _).symm ?_
      refine PK_pf (l' := [(209, or64 (s.2.1 209) (shl64 y11 (cut (56 - (cut (8 * s.1))))))]) 54 (or64 (s.2.1 209) (shl64 y11 (cut (56 - (cut (8 * s.1)))))) rfl rfl kd_6 rfl rfl rfl rfl rfl rfl rfl ?_
      refine P_inc 57 [(4, .int (i32 (cut (s.1 + 1)))), (0, .ref 6), (1, .ref 1000005), (2, .int (i32 v2)), (3, .int (i32 v3))] rfl rfl (by decide) rfl rfl ?_
      refine P_goto 13 rfl (fun _ => rfl) ?_
      refine P_some ?_
      refine P_lv (b := [(0, .ref 6), (1, .ref 1000005), (2, .int (i32 v2)), (3, .int (i32 v3)), (4, .int (i32 (cut (s.1 + 1))))]) rfl rfl ⟨rfl, rfl, rfl, rfl, rfl, trivial⟩ ?_
      exact H1 (cut (s.1 + 1), (mO s.2 [(209, or64 (s.2.1 209) (shl64 y11 (cut (56 - (cut (8 * s.1))))))] [])) (jk []) ⟨cut_r, (KCn_mO gm rfl rfl ⟨(kV_l rfl t64_r), trivial⟩ trivial)⟩
def kf_tx_makeGiven_b20002 (v2 : Int) (v3 : Int) (m : mR) : Option (Int × mR) :=
  bnd (whl (kfb_tx_makeGiven_b20002_13 v2 v3) (0, (mO m [(209, 0), (210, 0)] []))) (fun e14 : mR =>
    kfl_tx_makeGiven_b20002_60 v2 v3 e14)
theorem D_tx_makeGiven_b20002 (w : wX) (m : mR) (c : Nat → Option am_C) (N D : Nat) (hm : KCn m) (v2 : Int) (v3 : Int) (q2 : R32 v2) (q3 : R32 v3) : PC w D 48 [.ref 6, .ref 1000005, .int (i32 v2), .int (i32 v3)] (khp m c, N) (QS (FK0 c N) (kf_tx_makeGiven_b20002 v2 v3 m)) := by
  refine Pc_of (fun D bb => ?_) D
  unfold kf_tx_makeGiven_b20002
  show PP bb w D pm_48 (0, [(0, .ref 6), (1, .ref 1000005), (2, .int (i32 v2)), (3, .int (i32 v3))], [], (khp (mO m [] []) c, N), 0, 0) _
  refine P_ld 1 (.ref 6) rfl (fun _ => rfl) ?_
  refine P_ld 2 (.long (i64 0)) rfl (fun _ => rfl) ?_
  refine PK_pf (l' := [(209, 0)]) 5 0 rfl rfl kd_6 rfl rfl rfl rfl rfl rfl rfl ?_
  refine P_ld 6 (.ref 6) rfl (fun _ => rfl) ?_
  refine P_ld 7 (.long (i64 0)) rfl (fun _ => rfl) ?_
  refine PK_pf (l' := [(209, 0), (210, 0)]) 10 0 rfl rfl kd_6 rfl rfl rfl rfl rfl rfl rfl ?_
  refine P_ld 11 (.int (i32 0)) rfl (fun _ => rfl) ?_
  refine P_sto 13 [(4, .int (i32 0)), (0, .ref 6), (1, .ref 1000005), (2, .int (i32 v2)), (3, .int (i32 v3))] rfl (fun _ => rfl) ?_
  refine P_lv (b := [(0, .ref 6), (1, .ref 1000005), (2, .int (i32 v2)), (3, .int (i32 v3)), (4, .int (i32 0))]) rfl rfl ⟨rfl, rfl, rfl, rfl, rfl, trivial⟩ ?_
  refine P_bnd ?_
  refine P_whl (fun bb Q2 H1 H2 s9 j9 hs9 => dh_tx_makeGiven_b20002_13 w c N D v2 v3 q2 q3 bb Q2 H1 H2 s9 j9 hs9) bb (fun e14 j q15 => ?_) (0, (mO m [(209, 0), (210, 0)] [])) (jk []) ⟨(l32 0 rfl), (KCn_mO hm rfl rfl ⟨(kV_l rfl (l64 0 rfl)), (kV_l rfl (l64 0 rfl)), trivial⟩ trivial)⟩
  have q16 := q15
  show PP bb w D pm_48 (60, [(0, .ref 6), (1, .ref 1000005), (2, .int (i32 v2)), (3, .int (i32 v3)), (4, .int (i32 (j 4)))], [], (khp (mO e14 [] []) c, N), 0, 0) (QS _ (kfl_tx_makeGiven_b20002_60 v2 v3 e14))
  exact dg_tx_makeGiven_b20002_60 w c N D bb v2 v3 q2 q3 e14 q16 (jk [(4, j 4)])
def kfl_String_coder_b20003_14 (u0 : Int) (m : mR) : Option Int :=
  some u0
theorem dg_String_coder_b20003_14 (w : wX) (c : Nat → Option am_C) (N D : Nat) (bb : Nat) (u0 : Int) (r0 : R32 u0) (m : mR) (hm : KCn m) (j : Nat → Int) : PP bb w D pm_4 (14, [(0, .ref 1000007)], [.int (i32 u0)], (khp m c, N), 0, 0) (QS (FP1 (khp m c, N)) (kfl_String_coder_b20003_14 u0 m)) := by
  unfold kfl_String_coder_b20003_14
  show PP bb w D pm_4 (14, [(0, .ref 1000007)], [.int (i32 u0)], (khp (mO m [] []) c, N), 0, 0) _
  exact P_rp1 rfl r0
def kf_String_coder_b20003 (m : mR) : Option Int :=
  kfl_String_coder_b20003_14 0 m
theorem D_String_coder_b20003 (w : wX) (m : mR) (c : Nat → Option am_C) (N D : Nat) (hm : KCn m) : PC w D 4 [.ref 1000007] (khp m c, N) (QS (FP1 (khp m c, N)) (kf_String_coder_b20003 m)) := by
  refine Pc_of (fun D bb => ?_) D
  unfold kf_String_coder_b20003
  show PP bb w D pm_4 (0, [(0, .ref 1000007)], [], (khp (mO m [] []) c, N), 0, 0) _
  refine P_ld 3 (.int (i32 1)) rfl (fun _ => rfl) ?_
  refine P_ifN 13 6 rfl rfl rfl (l32 1 rfl) (by unfold cz; decide) ?_
  refine P_ld 7 (.ref 1000007) rfl (fun _ => rfl) ?_
  refine P_ld1 10 (.int (i32 0)) rfl (fun _ => rfl) ?_
  refine P_goto 14 rfl (fun _ => rfl) ?_
  exact dg_String_coder_b20003_14 w c N D bb 0 (l32 0 rfl) m hm (jk [])
def kf_String_length_b20003 (m : mR) : Option Int :=
  some (shr32 8 0)
theorem D_String_length_b20003 (w : wX) (m : mR) (c : Nat → Option am_C) (N D : Nat) (hm : KCn m) : PC w D 3 [.ref 1000007] (khp m c, N) (QS (FP1 (khp m c, N)) (kf_String_length_b20003 m)) := by
  refine Pc_of (fun D bb => ?_) D
  unfold kf_String_length_b20003
  show PP bb w D pm_3 (0, [(0, .ref 1000007)], [], (khp (mO m [] []) c, N), 0, 0) _
  refine P_ld 1 (.ref 1000007) rfl (fun _ => rfl) ?_
  refine P_ld1 4 (.ref 1000008) rfl (fun _ => rfl) ?_
  refine P_ld1 5 (.int (i32 8)) rfl (fun _ => rfl) ?_
  refine P_ld 6 (.ref 1000007) rfl (fun _ => rfl) ?_
  refine P_cq1 9 4 [.ref 1000007] [.int (i32 8)] 0 rfl (fun _ => rfl) rfl (D_String_coder_b20003 w m c N D hm) rfl ?_
  refine P_op 10 (shr32 8 0) _ rfl (fun _ => rfl) (i32_of _).symm ?_
  exact P_rp1 rfl t32_r
def kfl_String_isLatin1_b20003_18 (u0 : Int) (m : mR) : Option Int :=
  some u0
theorem dg_String_isLatin1_b20003_18 (w : wX) (c : Nat → Option am_C) (N D : Nat) (bb : Nat) (u0 : Int) (r0 : R32 u0) (m : mR) (hm : KCn m) (j : Nat → Int) : PP bb w D pm_6 (18, [(0, .ref 1000007)], [.int (i32 u0)], (khp m c, N), 0, 0) (QS (FP1 (khp m c, N)) (kfl_String_isLatin1_b20003_18 u0 m)) := by
  unfold kfl_String_isLatin1_b20003_18
  show PP bb w D pm_6 (18, [(0, .ref 1000007)], [.int (i32 u0)], (khp (mO m [] []) c, N), 0, 0) _
  exact P_rp1 rfl r0
def kf_String_isLatin1_b20003 (m : mR) : Option Int :=
  kfl_String_isLatin1_b20003_18 1 m
theorem D_String_isLatin1_b20003 (w : wX) (m : mR) (c : Nat → Option am_C) (N D : Nat) (hm : KCn m) : PC w D 6 [.ref 1000007] (khp m c, N) (QS (FP1 (khp m c, N)) (kf_String_isLatin1_b20003 m)) := by
  refine Pc_of (fun D bb => ?_) D
  unfold kf_String_isLatin1_b20003
  show PP bb w D pm_6 (0, [(0, .ref 1000007)], [], (khp (mO m [] []) c, N), 0, 0) _
  refine P_ld 3 (.int (i32 1)) rfl (fun _ => rfl) ?_
  refine P_ifN 17 6 rfl rfl rfl (l32 1 rfl) (by unfold cz; decide) ?_
  refine P_ld 7 (.ref 1000007) rfl (fun _ => rfl) ?_
  refine P_ld1 10 (.int (i32 0)) rfl (fun _ => rfl) ?_
  refine P_ifN 17 13 rfl rfl rfl (l32 0 rfl) (by unfold cz; decide) ?_
  refine P_ld 14 (.int (i32 1)) rfl (fun _ => rfl) ?_
  refine P_goto 18 rfl (fun _ => rfl) ?_
  exact dg_String_isLatin1_b20003_18 w c N D bb 1 (l32 1 rfl) m hm (jk [])
def kf_StringLatin1_charAt_b10003 (v1 : Int) (m : mR) : Option Int :=
  bnd (kf_String_checkIndex v1 8 m) fun y1 =>
  some (i2c32 (and32 (chr 3 v1) 255))
theorem D_StringLatin1_charAt_b10003 (w : wX) (m : mR) (c : Nat → Option am_C) (N D : Nat) (hm : KCn m) (v1 : Int) (q1 : R32 v1) : PC w D 7 [.ref 1000008, .int (i32 v1)] (khp m c, N) (QS (FP1 (khp m c, N)) (kf_StringLatin1_charAt_b10003 v1 m)) := by
  refine Pc_of (fun D bb => ?_) D
  unfold kf_StringLatin1_charAt_b10003
  show PP bb w D pm_7 (0, [(0, .ref 1000008), (1, .int (i32 v1))], [], (khp (mO m [] []) c, N), 0, 0) _
  refine P_ld 1 (.int (i32 v1)) rfl (fun _ => rfl) ?_
  refine P_ld 2 (.ref 1000008) rfl (fun _ => rfl) ?_
  refine P_ld1 3 (.int (i32 8)) rfl (fun _ => rfl) ?_
  refine P_cp0 6 8 [.int (i32 v1), .int (i32 8)] [] rfl (fun _ => rfl) rfl (D_String_checkIndex w m c N D hm v1 8 q1 (l32 8 rfl)) (fun y1 => ?_)
  refine P_ld 7 (.ref 1000008) rfl (fun _ => rfl) ?_
  refine P_ld 8 (.int (i32 v1)) rfl (fun _ => rfl) ?_
  refine P_xbald 9 3 8 rfl rfl rfl q1 ?_
  refine P_ld 12 (.int (i32 255)) rfl (fun _ => rfl) ?_
  refine P_op 13 (and32 (chr 3 v1) 255) _ rfl (fun _ => rfl) (i32_of _).symm ?_
  refine P_op 14 (i2c32 (and32 (chr 3 v1) 255)) _ rfl (fun _ => rfl) (i32_of _).symm ?_
  exact P_rp1 rfl t32_r
def kf_String_charAt_b20003 (v1 : Int) (m : mR) : Option Int :=
  bnd (kf_StringLatin1_charAt_b10003 v1 m) fun y2 =>
  some y2
theorem D_String_charAt_b20003 (w : wX) (m : mR) (c : Nat → Option am_C) (N D : Nat) (hm : KCn m) (v1 : Int) (q1 : R32 v1) : PC w D 5 [.ref 1000007, .int (i32 v1)] (khp m c, N) (QS (FP1 (khp m c, N)) (kf_String_charAt_b20003 v1 m)) := by
  refine Pc_of (fun D bb => ?_) D
  unfold kf_String_charAt_b20003
  show PP bb w D pm_5 (0, [(0, .ref 1000007), (1, .int (i32 v1))], [], (khp (mO m [] []) c, N), 0, 0) _
  refine P_ld 1 (.ref 1000007) rfl (fun _ => rfl) ?_
  refine P_cq1 4 6 [.ref 1000007] [] 1 rfl (fun _ => rfl) rfl (D_String_isLatin1_b20003 w m c N D hm) rfl ?_
  refine P_ifN 16 7 rfl rfl rfl (l32 1 rfl) (by unfold cz; decide) ?_
  refine P_ld 8 (.ref 1000007) rfl (fun _ => rfl) ?_
  refine P_ld1 11 (.ref 1000008) rfl (fun _ => rfl) ?_
  refine P_ld 12 (.int (i32 v1)) rfl (fun _ => rfl) ?_
  refine P_cp1 15 7 [.ref 1000008, .int (i32 v1)] [] rfl (fun _ => rfl) rfl (D_StringLatin1_charAt_b10003 w m c N D hm v1 q1) (fun y2 h3 => ?_)
  exact P_rp1 rfl h3
def cs_tx_makeGiven_b20003_13 (s : Int × mR) : Prop := R32 s.1 ∧ KCn s.2
def cx_tx_makeGiven_b20003_13 : (mR) → Prop := (fun (e : mR) => KCn e)
def hd_tx_makeGiven_b20003_13 (c : Nat → Option am_C) (N : Nat) (v2 : Int) (v3 : Int) (s : Int × mR) (j : Nat → Int) : ag_St af_T := (13, [(0, .ref 6), (1, .ref 1000007), (2, .int (i32 v2)), (3, .int (i32 v3)), (4, .int (i32 s.1))], [], (khp s.2 c, N), 0, 0)
def ex_tx_makeGiven_b20003_13 (c : Nat → Option am_C) (N : Nat) (v2 : Int) (v3 : Int) : (mR) → (Nat → Int) → ag_St af_T := (fun (e : mR) (j : Nat → Int) => ((60, [(0, .ref 6), (1, .ref 1000007), (2, .int (i32 v2)), (3, .int (i32 v3)), (4, .int (i32 (j 4)))], [], (khp e c, N), 0, 0) : ag_St af_T))
def kfl_tx_makeGiven_b20003_60 (v2 : Int) (v3 : Int) (m : mR) : Option (Int × mR) :=
  bnd (kf_tx_makeName v2 v3 m) fun y2 =>
  some (0, y2.2)
theorem dg_tx_makeGiven_b20003_60 (w : wX) (c : Nat → Option am_C) (N D : Nat) (bb : Nat) (v2 : Int) (v3 : Int) (q2 : R32 v2) (q3 : R32 v3) (m : mR) (hm : KCn m) (j : Nat → Int) : PP bb w D pm_48 (60, [(0, .ref 6), (1, .ref 1000007), (2, .int (i32 v2)), (3, .int (i32 v3)), (4, .int (i32 (j 4)))], [], (khp m c, N), 0, 0) (QS (FK0 c N) (kfl_tx_makeGiven_b20003_60 v2 v3 m)) := by
  unfold kfl_tx_makeGiven_b20003_60
  show PP bb w D pm_48 (60, [(0, .ref 6), (1, .ref 1000007), (2, .int (i32 v2)), (3, .int (i32 v3)), (4, .int (i32 (j 4)))], [], (khp (mO m [] []) c, N), 0, 0) _
  refine P_ld 61 (.ref 6) rfl (fun _ => rfl) ?_
  refine P_ld 62 (.int (i32 v2)) rfl (fun _ => rfl) ?_
  refine P_ld 63 (.int (i32 v3)) rfl (fun _ => rfl) ?_
  refine P_ck0 66 49 [.ref 6, .int (i32 v2), .int (i32 v3)] [] rfl (fun _ => rfl) rfl (D_tx_makeName w m c N D hm v2 v3 q2 q3) (fun y2 n4 => ?_)
  exact P_rk0 rfl rfl n4
def kfb_tx_makeGiven_b20003_13 (v2 : Int) (v3 : Int) (s : Int × mR) : Option (Sum (Int × mR) (mR)) :=
  bnd (kf_String_length_b20003 s.2) fun y6 =>
  if y6 ≤ s.1 then
    some (.inr s.2)
  else
    if (8 : Int) ≤ s.1 then
      some (.inr s.2)
    else
      bnd (kf_String_charAt_b20003 s.1 s.2) fun y11 =>
      some (.inl (cut (s.1 + 1), (mO s.2 [(209, or64 (s.2.1 209) (shl64 y11 (cut (56 - (cut (8 * s.1))))))] [])))
theorem dh_tx_makeGiven_b20003_13 (w : wX) (c : Nat → Option am_C) (N D : Nat) (v2 : Int) (v3 : Int) (q2 : R32 v2) (q3 : R32 v3) (bb : Nat) (Q2 : Sum (Int × mR) (mR) → ag_Re af_T → Prop) (H1 : ∀ s j, cs_tx_makeGiven_b20003_13 s → PP bb w D pm_48 (hd_tx_makeGiven_b20003_13 c N v2 v3 s j) (Q2 (.inl s))) (H2 : ∀ x j, cx_tx_makeGiven_b20003_13 x → PP bb w D pm_48 (ex_tx_makeGiven_b20003_13 c N v2 v3 x j) (Q2 (.inr x))) (s : Int × mR) (j : Nat → Int) (hs : cs_tx_makeGiven_b20003_13 s) : PP (bb + 1) w D pm_48 (hd_tx_makeGiven_b20003_13 c N v2 v3 s j) (QS Q2 (kfb_tx_makeGiven_b20003_13 v2 v3 s)) := by
  obtain ⟨g4, gm⟩ := hs
  unfold kfb_tx_makeGiven_b20003_13
  show PP (bb + 1) w D pm_48 (13, [(0, .ref 6), (1, .ref 1000007), (2, .int (i32 v2)), (3, .int (i32 v3)), (4, .int (i32 s.1))], [], (khp (mO s.2 [] []) c, N), 0, 0) _
  refine P1_ld 15 (.int (i32 s.1)) rfl (fun _ => rfl) ?_
  refine P_ld 16 (.ref 1000007) rfl (fun _ => rfl) ?_
  refine P_cp1 19 3 [.ref 1000007] [.int (i32 s.1)] rfl (fun _ => rfl) rfl (D_String_length_b20003 w s.2 c N D gm) (fun y6 h7 => ?_)
  refine P_icF 60 22 rfl rfl rfl g4 h7 rfl (fun h9 => ?_) (fun h9 => ?_)
  · skip
    refine P_some ?_
    exact H2 s.2 (jk [(4, s.1)]) gm
  · skip
    refine P_ld 24 (.int (i32 s.1)) rfl (fun _ => rfl) ?_
    refine P_ld 26 (.int (i32 8)) rfl (fun _ => rfl) ?_
    refine P_icF 60 29 rfl rfl rfl g4 (l32 8 rfl) rfl (fun h10 => ?_) (fun h10 => ?_)
    · skip
      refine P_some ?_
      exact H2 s.2 (jk [(4, s.1)]) gm
    · skip
      refine P_ld 30 (.ref 6) rfl (fun _ => rfl) ?_
      refine P_ld 31 (.ref 6) rfl (fun _ => rfl) ?_
      refine PK_gf 34 (.long (i64 (s.2.1 209))) rfl rfl kd_6 rfl rfl rfl ?_
      refine P_ld 35 (.ref 1000007) rfl (fun _ => rfl) ?_
      refine P_ld 37 (.int (i32 s.1)) rfl (fun _ => rfl) ?_
      refine P_cp1 40 5 [.ref 1000007, .int (i32 s.1)] [.long (i64 (s.2.1 209)), .ref 6] rfl (fun _ => rfl) rfl (D_String_charAt_b20003 w s.2 c N D gm s.1 g4) (fun y11 h12 => ?_)
      refine P_opl 41 y11 _ rfl (fun _ => rfl) (o_i2l h12) ?_
      refine P_ld 43 (.int (i32 56)) rfl (fun _ => rfl) ?_
      refine P_ld 45 (.int (i32 8)) rfl (fun _ => rfl) ?_
      refine P_ld 47 (.int (i32 s.1)) rfl (fun _ => rfl) ?_
      refine P_op 48 (cut (8 * s.1)) _ rfl (fun _ => rfl) o_mul ?_
      refine P_op 49 (cut (56 - (cut (8 * s.1)))) _ rfl (fun _ => rfl) o_sub ?_
      refine P_opl 50 (shl64 y11 (cut (56 - (cut (8 * s.1))))) _ rfl (fun _ => rfl) (Int64.ofInt_toInt _).symm ?_
      refine P_opl 51 (or64 (s.2.1 209) (shl64 y11 (cut (56 - (cut (8 * s.1)))))) _ rfl (fun _ => rfl) (Int64.ofInt_toInt _).symm ?_
      refine PK_pf (l' := [(209, or64 (s.2.1 209) (shl64 y11 (cut (56 - (cut (8 * s.1))))))]) 54 (or64 (s.2.1 209) (shl64 y11 (cut (56 - (cut (8 * s.1)))))) rfl rfl kd_6 rfl rfl rfl rfl rfl rfl rfl ?_
      refine P_inc 57 [(4, .int (i32 (cut (s.1 + 1)))), (0, .ref 6), (1, .ref 1000007), (2, .int (i32 v2)), (3, .int (i32 v3))] rfl rfl (by decide) rfl rfl ?_
      refine P_goto 13 rfl (fun _ => rfl) ?_
      refine P_some ?_
      refine P_lv (b := [(0, .ref 6), (1, .ref 1000007), (2, .int (i32 v2)), (3, .int (i32 v3)), (4, .int (i32 (cut (s.1 + 1))))]) rfl rfl ⟨rfl, rfl, rfl, rfl, rfl, trivial⟩ ?_
      exact H1 (cut (s.1 + 1), (mO s.2 [(209, or64 (s.2.1 209) (shl64 y11 (cut (56 - (cut (8 * s.1))))))] [])) (jk []) ⟨cut_r, (KCn_mO gm rfl rfl ⟨(kV_l rfl t64_r), trivial⟩ trivial)⟩
def kf_tx_makeGiven_b20003 (v2 : Int) (v3 : Int) (m : mR) : Option (Int × mR) :=
  bnd (whl (kfb_tx_makeGiven_b20003_13 v2 v3) (0, (mO m [(209, 0), (210, 0)] []))) (fun e14 : mR =>
    kfl_tx_makeGiven_b20003_60 v2 v3 e14)
theorem D_tx_makeGiven_b20003 (w : wX) (m : mR) (c : Nat → Option am_C) (N D : Nat) (hm : KCn m) (v2 : Int) (v3 : Int) (q2 : R32 v2) (q3 : R32 v3) : PC w D 48 [.ref 6, .ref 1000007, .int (i32 v2), .int (i32 v3)] (khp m c, N) (QS (FK0 c N) (kf_tx_makeGiven_b20003 v2 v3 m)) := by
  refine Pc_of (fun D bb => ?_) D
  unfold kf_tx_makeGiven_b20003
  show PP bb w D pm_48 (0, [(0, .ref 6), (1, .ref 1000007), (2, .int (i32 v2)), (3, .int (i32 v3))], [], (khp (mO m [] []) c, N), 0, 0) _
  refine P_ld 1 (.ref 6) rfl (fun _ => rfl) ?_
  refine P_ld 2 (.long (i64 0)) rfl (fun _ => rfl) ?_
  refine PK_pf (l' := [(209, 0)]) 5 0 rfl rfl kd_6 rfl rfl rfl rfl rfl rfl rfl ?_
  refine P_ld 6 (.ref 6) rfl (fun _ => rfl) ?_
  refine P_ld 7 (.long (i64 0)) rfl (fun _ => rfl) ?_
  refine PK_pf (l' := [(209, 0), (210, 0)]) 10 0 rfl rfl kd_6 rfl rfl rfl rfl rfl rfl rfl ?_
  refine P_ld 11 (.int (i32 0)) rfl (fun _ => rfl) ?_
  refine P_sto 13 [(4, .int (i32 0)), (0, .ref 6), (1, .ref 1000007), (2, .int (i32 v2)), (3, .int (i32 v3))] rfl (fun _ => rfl) ?_
  refine P_lv (b := [(0, .ref 6), (1, .ref 1000007), (2, .int (i32 v2)), (3, .int (i32 v3)), (4, .int (i32 0))]) rfl rfl ⟨rfl, rfl, rfl, rfl, rfl, trivial⟩ ?_
  refine P_bnd ?_
  refine P_whl (fun bb Q2 H1 H2 s9 j9 hs9 => dh_tx_makeGiven_b20003_13 w c N D v2 v3 q2 q3 bb Q2 H1 H2 s9 j9 hs9) bb (fun e14 j q15 => ?_) (0, (mO m [(209, 0), (210, 0)] [])) (jk []) ⟨(l32 0 rfl), (KCn_mO hm rfl rfl ⟨(kV_l rfl (l64 0 rfl)), (kV_l rfl (l64 0 rfl)), trivial⟩ trivial)⟩
  have q16 := q15
  show PP bb w D pm_48 (60, [(0, .ref 6), (1, .ref 1000007), (2, .int (i32 v2)), (3, .int (i32 v3)), (4, .int (i32 (j 4)))], [], (khp (mO e14 [] []) c, N), 0, 0) (QS _ (kfl_tx_makeGiven_b20003_60 v2 v3 e14))
  exact dg_tx_makeGiven_b20003_60 w c N D bb v2 v3 q2 q3 e14 q16 (jk [(4, j 4)])
end X28A
