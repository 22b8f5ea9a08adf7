noncomputable section X55DF
def cs_tb_append_13 (B : oB) (s : Int × mR) : Prop := R32 s.1 ∧ KCo B s.2
def cx_tb_append_13 (B : oB) : (mR) → Prop := (fun (e : mR) => KCo B e)
def hd_tb_append_13 (B : oB) (c : Nat → Option am_C) (N : Nat) (v0 : Int) (v1 : Int) (s : Int × mR) (j : Nat → Int) : ag_St af_T := (13, [(0, .ref (tbr v0)), (1, .ref (obo B v1)), (2, .int (i32 s.1))], [], (khp s.2 c, N), 0, 0)
def ex_tb_append_13 (B : oB) (c : Nat → Option am_C) (N : Nat) (v0 : Int) (v1 : Int) : (mR) → (Nat → Int) → ag_St af_T := (fun (e : mR) (j : Nat → Int) => ((65, [(0, .ref (tbr v0)), (1, .ref (obo B v1)), (2, .int (i32 (j 2)))], [], (khp e c, N), 0, 0) : ag_St af_T))
def kfl_tb_append_154 (u0 : Int) (m : mR) : Option (Int × mR) :=
  some (u0, m)
theorem dg_tb_append_154 (B : oB) (w : wX) (c : Nat → Option am_C) (N D : Nat) (bb : Nat) (u0 : Int) (r0 : R32 u0) (m : mR) (hm : KCo B m) (j : Nat → Int) : PP bb w D pm_191 (154, [(0, .ref (tbr (j 0))), (1, .ref (obo B (j 1))), (2, .int (i32 (j 2)))], [.int (i32 u0)], (khp m c, N), 0, 0) (QS (FO1 B c N) (kfl_tb_append_154 u0 m)) := by
  unfold kfl_tb_append_154
  show PP bb w D pm_191 (154, [(0, .ref (tbr (j 0))), (1, .ref (obo B (j 1))), (2, .int (i32 (j 2)))], [.int (i32 u0)], (khp (mO m [] []) c, N), 0, 0) _
  exact P_ro1 rfl r0 hm
def kfl_tb_append_141 (v2 : Int) (u0 : Int) (u1 : Int) (u2 : Int) (m : mR) : Option (Int × mR) :=
  if v2 = 0 then
    kfl_tb_append_154 1 (mO m [] [(78, upI (m.2 78) u0 (cut (u1 + u2)))])
  else
    kfl_tb_append_154 0 (mO m [] [(78, upI (m.2 78) u0 (cut (u1 + u2)))])
theorem dg_tb_append_141 (B : oB) (w : wX) (c : Nat → Option am_C) (N D : Nat) (bb : Nat) (v2 : Int) (u0 : Int) (u1 : Int) (u2 : Int) (q2 : R32 v2) (r0 : Rt u0) (r1 : R32 u1) (r2 : R32 u2) (m : mR) (hm : KCo B m) (j : Nat → Int) : PP bb w D pm_191 (141, [(0, .ref (tbr (j 0))), (1, .ref (obo B (j 1))), (2, .int (i32 v2))], [.int (i32 u2), .int (i32 u1), .ref (tbr u0)], (khp m c, N), 0, 0) (QS (FO1 B c N) (kfl_tb_append_141 v2 u0 u1 u2 m)) := by
  unfold kfl_tb_append_141
  show PP bb w D pm_191 (141, [(0, .ref (tbr (j 0))), (1, .ref (obo B (j 1))), (2, .int (i32 v2))], [.int (i32 u2), .int (i32 u1), .ref (tbr u0)], (khp (mO m [] []) c, N), 0, 0) _
  refine P_op 142 (cut (u1 + u2)) _ rfl (fun _ => rfl) o_add ?_
  refine PK_pfi (a' := [(78, upI (m.2 78) u0 (cut (u1 + u2)))]) 145 78 (m.2 78) rfl rfl rfl r0.1 r0.2 rfl rfl rfl ?_
  refine P_ld 146 (.int (i32 v2)) rfl (fun _ => rfl) ?_
  refine P_ifE 153 149 rfl rfl rfl q2 rfl (fun h2 => ?_) (fun h2 => ?_)
  · skip
    refine P_ld 150 (.int (i32 1)) rfl (fun _ => rfl) ?_
    refine P_goto 154 rfl (fun _ => rfl) ?_
    exact dg_tb_append_154 B w c N D bb 1 (l32 1 rfl) (mO m [] [(78, upI (m.2 78) u0 (cut (u1 + u2)))]) (KCo_mO hm rfl rfl (KC6 hm rfl) trivial ⟨(kE_ui (KCn_a hm.1 78) rfl cut_r), trivial⟩) (jk [(0, j 0), (1, j 1), (2, v2)])
  · skip
    refine P_ld 154 (.int (i32 0)) rfl (fun _ => rfl) ?_
    exact dg_tb_append_154 B w c N D bb 0 (l32 0 rfl) (mO m [] [(78, upI (m.2 78) u0 (cut (u1 + u2)))]) (KCo_mO hm rfl rfl (KC6 hm rfl) trivial ⟨(kE_ui (KCn_a hm.1 78) rfl cut_r), trivial⟩) (jk [(0, j 0), (1, j 1), (2, v2)])
def kfl_tb_append_126 (v0 : Int) (u0 : Int) (m : mR) : Option (Int × mR) :=
  if u0 = 0 then
    kfl_tb_append_141 u0 v0 ((m.2 78) v0) 1 m
  else
    kfl_tb_append_141 u0 v0 ((m.2 78) v0) 0 m
theorem dg_tb_append_126 (B : oB) (w : wX) (c : Nat → Option am_C) (N D : Nat) (bb : Nat) (v0 : Int) (u0 : Int) (q0 : Rt v0) (r0 : R32 u0) (m : mR) (hm : KCo B m) (j : Nat → Int) : PP bb w D pm_191 (126, [(0, .ref (tbr v0)), (1, .ref (obo B (j 1))), (2, .int (i32 (j 2)))], [.int (i32 u0)], (khp m c, N), 0, 0) (QS (FO1 B c N) (kfl_tb_append_126 v0 u0 m)) := by
  unfold kfl_tb_append_126
  show PP bb w D pm_191 (126, [(0, .ref (tbr v0)), (1, .ref (obo B (j 1))), (2, .int (i32 (j 2)))], [.int (i32 u0)], (khp (mO m [] []) c, N), 0, 0) _
  refine P_sto 127 [(2, .int (i32 u0)), (0, .ref (tbr v0)), (1, .ref (obo B (j 1)))] rfl (fun _ => rfl) ?_
  refine P_ld 128 (.ref (tbr v0)) rfl (fun _ => rfl) ?_
  refine P_ld 129 (.ref (tbr v0)) rfl (fun _ => rfl) ?_
  refine PK_gfi 132 78 (m.2 78) rfl rfl q0.1 q0.2 rfl rfl ?_
  refine P_ld 133 (.int (i32 u0)) rfl (fun _ => rfl) ?_
  refine P_ifF 140 136 rfl rfl rfl r0 rfl (fun h3 => ?_) (fun h3 => ?_)
  · skip
    refine P_ld 141 (.int (i32 1)) rfl (fun _ => rfl) ?_
    refine P_lv (b := [(0, .ref (tbr v0)), (1, .ref (obo B (j 1))), (2, .int (i32 u0))]) rfl rfl ⟨rfl, rfl, rfl, trivial⟩ ?_
    exact dg_tb_append_141 B w c N D bb u0 v0 ((m.2 78) v0) 1 r0 q0 (kE_i (KCn_a hm.1 78) rfl _) (l32 1 rfl) m hm (jk [(0, v0), (1, j 1)])
  · skip
    refine P_ld 137 (.int (i32 0)) rfl (fun _ => rfl) ?_
    refine P_goto 141 rfl (fun _ => rfl) ?_
    refine P_lv (b := [(0, .ref (tbr v0)), (1, .ref (obo B (j 1))), (2, .int (i32 u0))]) rfl rfl ⟨rfl, rfl, rfl, trivial⟩ ?_
    exact dg_tb_append_141 B w c N D bb u0 v0 ((m.2 78) v0) 0 r0 q0 (kE_i (KCn_a hm.1 78) rfl _) (l32 0 rfl) m hm (jk [(0, v0), (1, j 1)])
def kfl_tb_append_65 (v0 : Int) (v1 : Int) (m : mR) : Option (Int × mR) :=
  bnd (kf_tb_isHashed v0 (mO m [] [(88, upI (m.2 88) (65536 * v0 + ((m.2 78) v0)) ((m.2 96) v1))])) fun y4 =>
  if y4 = 0 then
    if (m.2 78) v0 < (m.2 75) v0 then
      kfl_tb_append_126 v0 0 (mO m [] [(88, upI (m.2 88) (65536 * v0 + ((m.2 78) v0)) ((m.2 96) v1))])
    else
      kfl_tb_append_126 v0 1 (mO m [] [(88, upI (m.2 88) (65536 * v0 + ((m.2 78) v0)) ((m.2 96) v1))])
  else
    bnd (kf_tb_above v0 (cut (((m.2 78) v0) + 1)) (mO m [] [(88, upI (m.2 88) (65536 * v0 + ((m.2 78) v0)) ((m.2 96) v1))])) fun y9 =>
    if y9.1 ≤ (y9.2.2 77) v0 then
      kfl_tb_append_126 v0 0 y9.2
    else
      kfl_tb_append_126 v0 1 y9.2
theorem dg_tb_append_65 (B : oB) (w : wX) (c : Nat → Option am_C) (N D : Nat) (bb : Nat) (v0 : Int) (v1 : Int) (q0 : Rt v0) (q1 : OKo B v1) (m : mR) (hm : KCo B m) (j : Nat → Int) : PP bb w D pm_191 (65, [(0, .ref (tbr v0)), (1, .ref (obo B v1)), (2, .int (i32 (j 2)))], [], (khp m c, N), 0, 0) (QS (FO1 B c N) (kfl_tb_append_65 v0 v1 m)) := by
  unfold kfl_tb_append_65
  show PP bb w D pm_191 (65, [(0, .ref (tbr v0)), (1, .ref (obo B v1)), (2, .int (i32 (j 2)))], [], (khp (mO m [] []) c, N), 0, 0) _
  refine P_ld 66 (.ref (tbr v0)) rfl (fun _ => rfl) ?_
  refine PK_gfr 69 rfl rfl q0.1 q0.2 rfl ?_
  refine P_ld 70 (.ref (tbr v0)) rfl (fun _ => rfl) ?_
  refine PK_gfi 73 78 (m.2 78) rfl rfl q0.1 q0.2 rfl rfl ?_
  refine P_ld 74 (.ref (obo B v1)) rfl (fun _ => rfl) ?_
  refine PK_goi 77 96 (m.2 96) rfl rfl (OKr_o hm rfl rfl q1) (obr_o hm rfl) rfl rfl ?_
  refine PK_iastt2 (a' := [(88, upI (m.2 88) (65536 * v0 + ((m.2 78) v0)) ((m.2 96) v1))]) 78 9 (m.2 88) rfl rfl rfl q0 (kE_i (KCn_a hm.1 78) rfl _) rfl rfl ?_
  refine P_ld 79 (.ref (tbr v0)) rfl (fun _ => rfl) ?_
  refine P_cp1 82 135 [.ref (tbr v0)] [] rfl (inv_vt (args := []) (khp_t0 _ q0.1 q0.2) rfl rfl rfl) rfl (D_tb_isHashed w (mO m [] [(88, upI (m.2 88) (65536 * v0 + ((m.2 78) v0)) ((m.2 96) v1))]) c N D (KCo_1 (KCo_mO hm rfl rfl (KC6 hm rfl) trivial ⟨(kE_ui (KCn_a hm.1 88) rfl (kE_i (KCn_a hm.1 96) rfl _)), trivial⟩)) v0 q0) (fun y4 h5 => ?_)
  refine P_ifF 110 85 rfl rfl rfl h5 rfl (fun h7 => ?_) (fun h7 => ?_)
  · skip
    refine P_ld 111 (.ref (tbr v0)) rfl (fun _ => rfl) ?_
    refine PK_gfi 114 78 (m.2 78) rfl rfl q0.1 q0.2 rfl rfl ?_
    refine P_ld 115 (.ref (tbr v0)) rfl (fun _ => rfl) ?_
    refine PK_gfi 118 75 (m.2 75) rfl rfl q0.1 q0.2 rfl rfl ?_
    refine P_icF 125 121 rfl rfl rfl (kE_i (KCn_a hm.1 78) rfl _) (kE_i (KCn_a hm.1 75) rfl _) rfl (fun h8 => ?_) (fun h8 => ?_)
    · skip
      refine P_ld 126 (.int (i32 0)) rfl (fun _ => rfl) ?_
      exact dg_tb_append_126 B w c N D bb v0 0 q0 (l32 0 rfl) (mO m [] [(88, upI (m.2 88) (65536 * v0 + ((m.2 78) v0)) ((m.2 96) v1))]) (KCo_mO hm rfl rfl (KC6 hm rfl) trivial ⟨(kE_ui (KCn_a hm.1 88) rfl (kE_i (KCn_a hm.1 96) rfl _)), trivial⟩) (jk [(1, v1), (2, j 2)])
    · skip
      refine P_ld 122 (.int (i32 1)) rfl (fun _ => rfl) ?_
      refine P_goto 126 rfl (fun _ => rfl) ?_
      exact dg_tb_append_126 B w c N D bb v0 1 q0 (l32 1 rfl) (mO m [] [(88, upI (m.2 88) (65536 * v0 + ((m.2 78) v0)) ((m.2 96) v1))]) (KCo_mO hm rfl rfl (KC6 hm rfl) trivial ⟨(kE_ui (KCn_a hm.1 88) rfl (kE_i (KCn_a hm.1 96) rfl _)), trivial⟩) (jk [(1, v1), (2, j 2)])
  · skip
    refine P_ld 86 (.ref (tbr v0)) rfl (fun _ => rfl) ?_
    refine P_ld 87 (.ref (tbr v0)) rfl (fun _ => rfl) ?_
    refine PK_gfi 90 78 (m.2 78) rfl rfl q0.1 q0.2 rfl rfl ?_
    refine P_ld 91 (.int (i32 1)) rfl (fun _ => rfl) ?_
    refine P_op 92 (cut (((m.2 78) v0) + 1)) _ rfl (fun _ => rfl) o_add ?_
    refine P_co1 95 192 [.ref (tbr v0), .int (i32 (cut (((m.2 78) v0) + 1)))] [] rfl (inv_vt (args := [.int (i32 (cut (((m.2 78) v0) + 1)))]) (khp_t0 _ q0.1 q0.2) rfl rfl rfl) rfl (D_tb_above B w (mO m [] [(88, upI (m.2 88) (65536 * v0 + ((m.2 78) v0)) ((m.2 96) v1))]) c N D (KCo_mO hm rfl rfl (KC6 hm rfl) trivial ⟨(kE_ui (KCn_a hm.1 88) rfl (kE_i (KCn_a hm.1 96) rfl _)), trivial⟩) v0 (cut (((m.2 78) v0) + 1)) q0 cut_r) (fun y9 h10 n11 => ?_)
    refine P_ld 96 (.ref (tbr v0)) rfl (fun _ => rfl) ?_
    refine PK_gfi 99 77 (y9.2.2 77) rfl rfl q0.1 q0.2 rfl rfl ?_
    refine P_icF 106 102 rfl rfl rfl h10 (kE_i (KCn_a n11.1 77) rfl _) rfl (fun h12 => ?_) (fun h12 => ?_)
    · skip
      refine P_ld 107 (.int (i32 0)) rfl (fun _ => rfl) ?_
      refine P_goto 126 rfl (fun _ => rfl) ?_
      exact dg_tb_append_126 B w c N D bb v0 0 q0 (l32 0 rfl) y9.2 n11 (jk [(1, v1), (2, j 2)])
    · skip
      refine P_ld 103 (.int (i32 1)) rfl (fun _ => rfl) ?_
      refine P_goto 126 rfl (fun _ => rfl) ?_
      exact dg_tb_append_126 B w c N D bb v0 1 q0 (l32 1 rfl) y9.2 n11 (jk [(1, v1), (2, j 2)])
def kfb_tb_append_13 (v0 : Int) (v1 : Int) (s : Int × mR) : Option (Sum (Int × mR) (mR)) :=
  if (s.2.2 72) v0 ≤ s.1 then
    some (.inr s.2)
  else
    some (.inl (cut (s.1 + 1), (mO s.2 [] [(85, upI (s.2.2 85) (65536 * v0 + (cut ((cut (((s.2.2 78) v0) * 4)) + s.1))) ((s.2.2 103) (65536 * v1 + s.1))), (86, upI (s.2.2 86) (65536 * v0 + (cut ((cut (((s.2.2 78) v0) * 4)) + s.1))) ((s.2.2 104) (65536 * v1 + s.1)))])))
theorem dh_tb_append_13 (B : oB) (w : wX) (c : Nat → Option am_C) (N D : Nat) (v0 : Int) (v1 : Int) (q0 : Rt v0) (q1 : OKo B v1) (bb : Nat) (Q2 : Sum (Int × mR) (mR) → ag_Re af_T → Prop) (H1 : ∀ s j, cs_tb_append_13 B s → PP bb w D pm_191 (hd_tb_append_13 B c N v0 v1 s j) (Q2 (.inl s))) (H2 : ∀ x j, cx_tb_append_13 B x → PP bb w D pm_191 (ex_tb_append_13 B c N v0 v1 x j) (Q2 (.inr x))) (s : Int × mR) (j : Nat → Int) (hs : cs_tb_append_13 B s) : PP (bb + 1) w D pm_191 (hd_tb_append_13 B c N v0 v1 s j) (QS Q2 (kfb_tb_append_13 v0 v1 s)) := by
  obtain ⟨g2, gm⟩ := hs
  unfold kfb_tb_append_13
  show PP (bb + 1) w D pm_191 (13, [(0, .ref (tbr v0)), (1, .ref (obo B v1)), (2, .int (i32 s.1))], [], (khp (mO s.2 [] []) c, N), 0, 0) _
  refine P1_ld 14 (.int (i32 s.1)) rfl (fun _ => rfl) ?_
  refine P_ld 15 (.ref (tbr v0)) rfl (fun _ => rfl) ?_
  refine PK_gfi 18 72 (s.2.2 72) rfl rfl q0.1 q0.2 rfl rfl ?_
  refine P_icF 65 21 rfl rfl rfl g2 (kE_i (KCn_a gm.1 72) rfl _) rfl (fun h14 => ?_) (fun h14 => ?_)
  · skip
    refine P_some ?_
    exact H2 s.2 (jk [(2, s.1)]) gm
  · skip
    refine P_ld 22 (.ref (tbr v0)) rfl (fun _ => rfl) ?_
    refine PK_gfr 25 rfl rfl q0.1 q0.2 rfl ?_
    refine P_ld 26 (.ref (tbr v0)) rfl (fun _ => rfl) ?_
    refine PK_gfi 29 78 (s.2.2 78) rfl rfl q0.1 q0.2 rfl rfl ?_
    refine P_ld 30 (.int (i32 4)) rfl (fun _ => rfl) ?_
    refine P_op 31 (cut (((s.2.2 78) v0) * 4)) _ rfl (fun _ => rfl) o_mul ?_
    refine P_ld 32 (.int (i32 s.1)) rfl (fun _ => rfl) ?_
    refine P_op 33 (cut ((cut (((s.2.2 78) v0) * 4)) + s.1)) _ rfl (fun _ => rfl) o_add ?_
    refine P_ld 34 (.ref (obo B v1)) rfl (fun _ => rfl) ?_
    refine PK_gor 37 rfl rfl (OKr_o gm rfl rfl q1) (obr_o gm rfl) rfl ?_
    refine P_ld 38 (.int (i32 s.1)) rfl (fun _ => rfl) ?_
    refine PK_lalo2 39 3 (s.2.2 103) rfl rfl rfl gm rfl rfl q1 g2 rfl ?_
    refine PK_lastt2 (a' := [(85, upI (s.2.2 85) (65536 * v0 + (cut ((cut (((s.2.2 78) v0) * 4)) + s.1))) ((s.2.2 103) (65536 * v1 + s.1)))]) 40 6 (s.2.2 85) rfl rfl rfl q0 cut_r rfl rfl ?_
    refine P_ld 41 (.ref (tbr v0)) rfl (fun _ => rfl) ?_
    refine PK_gfr 44 rfl rfl q0.1 q0.2 rfl ?_
    refine P_ld 45 (.ref (tbr v0)) rfl (fun _ => rfl) ?_
    refine PK_gfi 48 78 (s.2.2 78) rfl rfl q0.1 q0.2 rfl rfl ?_
    refine P_ld 49 (.int (i32 4)) rfl (fun _ => rfl) ?_
    refine P_op 50 (cut (((s.2.2 78) v0) * 4)) _ rfl (fun _ => rfl) o_mul ?_
    refine P_ld 51 (.int (i32 s.1)) rfl (fun _ => rfl) ?_
    refine P_op 52 (cut ((cut (((s.2.2 78) v0) * 4)) + s.1)) _ rfl (fun _ => rfl) o_add ?_
    refine P_ld 53 (.ref (obo B v1)) rfl (fun _ => rfl) ?_
    refine PK_gor 56 rfl rfl (OKr_o gm rfl rfl q1) (obr_o gm rfl) rfl ?_
    refine P_ld 57 (.int (i32 s.1)) rfl (fun _ => rfl) ?_
    refine PK_lalo2 58 4 (s.2.2 104) rfl rfl rfl gm rfl rfl q1 g2 rfl ?_
    refine PK_lastt2 (a' := [(85, upI (s.2.2 85) (65536 * v0 + (cut ((cut (((s.2.2 78) v0) * 4)) + s.1))) ((s.2.2 103) (65536 * v1 + s.1))), (86, upI (s.2.2 86) (65536 * v0 + (cut ((cut (((s.2.2 78) v0) * 4)) + s.1))) ((s.2.2 104) (65536 * v1 + s.1)))]) 59 7 (s.2.2 86) rfl rfl rfl q0 cut_r rfl rfl ?_
    refine P_inc 62 [(2, .int (i32 (cut (s.1 + 1)))), (0, .ref (tbr v0)), (1, .ref (obo B v1))] rfl rfl (by decide) rfl rfl ?_
    refine P_goto 13 rfl (fun _ => rfl) ?_
    refine P_some ?_
    refine P_lv (b := [(0, .ref (tbr v0)), (1, .ref (obo B v1)), (2, .int (i32 (cut (s.1 + 1))))]) rfl rfl ⟨rfl, rfl, rfl, trivial⟩ ?_
    exact H1 (cut (s.1 + 1), (mO s.2 [] [(85, upI (s.2.2 85) (65536 * v0 + (cut ((cut (((s.2.2 78) v0) * 4)) + s.1))) ((s.2.2 103) (65536 * v1 + s.1))), (86, upI (s.2.2 86) (65536 * v0 + (cut ((cut (((s.2.2 78) v0) * 4)) + s.1))) ((s.2.2 104) (65536 * v1 + s.1)))])) (jk []) ⟨cut_r, (KCo_mO gm rfl rfl (KC6 gm rfl) trivial ⟨(kE_ul (KCn_a gm.1 85) rfl (kE_l (KCn_a gm.1 103) rfl _)), (kE_ul (KCn_a gm.1 86) rfl (kE_l (KCn_a gm.1 104) rfl _)), trivial⟩)⟩
def kf_tb_append (v0 : Int) (v1 : Int) (m : mR) : Option (Int × mR) :=
  if (m.2 78) v0 < 72 then
    bnd (whl (kfb_tb_append_13 v0 v1) (0, m)) (fun e16 : mR =>
      kfl_tb_append_65 v0 v1 e16)
  else
    some (0, m)
theorem D_tb_append (B : oB) (w : wX) (m : mR) (c : Nat → Option am_C) (N D : Nat) (hm : KCo B m) (v0 : Int) (v1 : Int) (q0 : Rt v0) (q1 : OKo B v1) : PC w D 191 [.ref (tbr v0), .ref (obo B v1)] (khp m c, N) (QS (FO1 B c N) (kf_tb_append v0 v1 m)) := by
  refine Pc_of (fun D bb => ?_) D
  unfold kf_tb_append
  show PP bb w D pm_191 (0, [(0, .ref (tbr v0)), (1, .ref (obo B v1))], [], (khp (mO m [] []) c, N), 0, 0) _
  refine P_ld 1 (.ref (tbr v0)) rfl (fun _ => rfl) ?_
  refine PK_gfi 4 78 (m.2 78) rfl rfl q0.1 q0.2 rfl rfl ?_
  refine P_ld 6 (.int (i32 72)) rfl (fun _ => rfl) ?_
  refine P_icF 11 9 rfl rfl rfl (kE_i (KCn_a hm.1 78) rfl _) (l32 72 rfl) rfl (fun h15 => ?_) (fun h15 => ?_)
  · skip
    refine P_ld 12 (.int (i32 0)) rfl (fun _ => rfl) ?_
    refine P_sto 13 [(2, .int (i32 0)), (0, .ref (tbr v0)), (1, .ref (obo B v1))] rfl (fun _ => rfl) ?_
    refine P_lv (b := [(0, .ref (tbr v0)), (1, .ref (obo B v1)), (2, .int (i32 0))]) rfl rfl ⟨rfl, rfl, rfl, trivial⟩ ?_
    refine P_bnd ?_
    refine P_whl (fun bb Q2 H1 H2 s9 j9 hs9 => dh_tb_append_13 B w c N D v0 v1 q0 q1 bb Q2 H1 H2 s9 j9 hs9) bb (fun e16 j q17 => ?_) (0, m) (jk []) ⟨(l32 0 rfl), hm⟩
    have q18 := q17
    show PP bb w D pm_191 (65, [(0, .ref (tbr v0)), (1, .ref (obo B v1)), (2, .int (i32 (j 2)))], [], (khp (mO e16 [] []) c, N), 0, 0) (QS _ (kfl_tb_append_65 v0 v1 e16))
    exact dg_tb_append_65 B w c N D bb v0 v1 q0 q1 e16 q18 (jk [(2, j 2)])
  · skip
    refine P_ld 10 (.int (i32 0)) rfl (fun _ => rfl) ?_
    exact P_ro1 rfl (l32 0 rfl) hm
def cs_tb_remove_2 (B : oB) (s : Int × mR) : Prop := R32 s.1 ∧ KCo B s.2
def cx_tb_remove_2 (B : oB) : (mR) → Prop := (fun (e : mR) => KCo B e)
def hd_tb_remove_2 (B : oB) (c : Nat → Option am_C) (N : Nat) (v0 : Int) (s : Int × mR) (j : Nat → Int) : ag_St af_T := (2, [(0, .ref (tbr v0)), (1, .int (i32 (j 1))), (2, .int (i32 s.1)), (3, .int (i32 (j 3)))], [], (khp s.2 c, N), 0, 0)
def ex_tb_remove_2 (B : oB) (c : Nat → Option am_C) (N : Nat) (v0 : Int) : (mR) → (Nat → Int) → ag_St af_T := (fun (e : mR) (j : Nat → Int) => ((125, [(0, .ref (tbr v0)), (1, .int (i32 (j 1))), (2, .int (i32 (j 2))), (3, .int (i32 (j 3)))], [], (khp e c, N), 0, 0) : ag_St af_T))
def cs_tb_remove_14 (B : oB) (s : Int × mR) : Prop := R32 s.1 ∧ KCo B s.2
def cx_tb_remove_14 (B : oB) : (mR) → Prop := (fun (e : mR) => KCo B e)
def hd_tb_remove_14 (B : oB) (c : Nat → Option am_C) (N : Nat) (v0 : Int) (v2 : Int) (s : Int × mR) (j : Nat → Int) : ag_St af_T := (14, [(0, .ref (tbr v0)), (1, .int (i32 (j 1))), (2, .int (i32 v2)), (3, .int (i32 s.1))], [], (khp s.2 c, N), 0, 0)
def ex_tb_remove_14 (B : oB) (c : Nat → Option am_C) (N : Nat) (v0 : Int) (v2 : Int) : (mR) → (Nat → Int) → ag_St af_T := (fun (e : mR) (j : Nat → Int) => ((91, [(0, .ref (tbr v0)), (1, .int (i32 (j 1))), (2, .int (i32 v2)), (3, .int (i32 (j 3)))], [], (khp e c, N), 0, 0) : ag_St af_T))
def kfl_tb_remove_125 (v0 : Int) (m : mR) : Option (Int × mR) :=
  some (0, (mO m [] [(78, upI (m.2 78) v0 (cut (((m.2 78) v0) - 1)))]))
theorem dg_tb_remove_125 (B : oB) (w : wX) (c : Nat → Option am_C) (N D : Nat) (bb : Nat) (v0 : Int) (q0 : Rt v0) (m : mR) (hm : KCo B m) (j : Nat → Int) : PP bb w D pm_190 (125, [(0, .ref (tbr v0)), (1, .int (i32 (j 1))), (2, .int (i32 (j 2))), (3, .int (i32 (j 3)))], [], (khp m c, N), 0, 0) (QS (FO0 B c N) (kfl_tb_remove_125 v0 m)) := by
  unfold kfl_tb_remove_125
  show PP bb w D pm_190 (125, [(0, .ref (tbr v0)), (1, .int (i32 (j 1))), (2, .int (i32 (j 2))), (3, .int (i32 (j 3)))], [], (khp (mO m [] []) c, N), 0, 0) _
  refine P_ld 126 (.ref (tbr v0)) rfl (fun _ => rfl) ?_
  refine P_ld 127 (.ref (tbr v0)) rfl (fun _ => rfl) ?_
  refine PK_gfi 130 78 (m.2 78) rfl rfl q0.1 q0.2 rfl rfl ?_
  refine P_ld 131 (.int (i32 1)) rfl (fun _ => rfl) ?_
  refine P_op 132 (cut (((m.2 78) v0) - 1)) _ rfl (fun _ => rfl) o_sub ?_
  refine PK_pfi (a' := [(78, upI (m.2 78) v0 (cut (((m.2 78) v0) - 1)))]) 135 78 (m.2 78) rfl rfl rfl q0.1 q0.2 rfl rfl rfl ?_
  exact P_ro0 rfl rfl (KCo_mO hm rfl rfl (KC6 hm rfl) trivial ⟨(kE_ui (KCn_a hm.1 78) rfl cut_r), trivial⟩)
def kfl_tb_remove_91 (v0 : Int) (v2 : Int) (m : mR) : Option (Sum (Int × mR) (mR)) :=
  some (.inl (cut (v2 + 1), (mO m [] [(88, upI (m.2 88) (65536 * v0 + v2) ((m.2 88) (65536 * v0 + (cut (v2 + 1))))), (89, upI (m.2 89) (65536 * v0 + v2) ((m.2 89) (65536 * v0 + (cut (v2 + 1)))))])))
theorem dg_tb_remove_91 (B : oB) (w : wX) (c : Nat → Option am_C) (N D : Nat) (bb : Nat) (v0 : Int) (v2 : Int) (q0 : Rt v0) (q2 : R32 v2) (m : mR) (hm : KCo B m) (j : Nat → Int) (Q2 : Sum (Int × mR) (mR) → ag_Re af_T → Prop) (H1 : ∀ s j, cs_tb_remove_2 B s → PP bb w D pm_190 (hd_tb_remove_2 B c N v0 s j) (Q2 (.inl s))) (H2 : ∀ x j, cx_tb_remove_2 B x → PP bb w D pm_190 (ex_tb_remove_2 B c N v0 x j) (Q2 (.inr x))) : PP bb w D pm_190 (91, [(0, .ref (tbr v0)), (1, .int (i32 (j 1))), (2, .int (i32 v2)), (3, .int (i32 (j 3)))], [], (khp m c, N), 0, 0) (QS Q2 (kfl_tb_remove_91 v0 v2 m)) := by
  unfold kfl_tb_remove_91
  show PP bb w D pm_190 (91, [(0, .ref (tbr v0)), (1, .int (i32 (j 1))), (2, .int (i32 v2)), (3, .int (i32 (j 3)))], [], (khp (mO m [] []) c, N), 0, 0) _
  refine P_ld 92 (.ref (tbr v0)) rfl (fun _ => rfl) ?_
  refine PK_gfr 95 rfl rfl q0.1 q0.2 rfl ?_
  refine P_ld 96 (.int (i32 v2)) rfl (fun _ => rfl) ?_
  refine P_ld 97 (.ref (tbr v0)) rfl (fun _ => rfl) ?_
  refine PK_gfr 100 rfl rfl q0.1 q0.2 rfl ?_
  refine P_ld 101 (.int (i32 v2)) rfl (fun _ => rfl) ?_
  refine P_ld 102 (.int (i32 1)) rfl (fun _ => rfl) ?_
  refine P_op 103 (cut (v2 + 1)) _ rfl (fun _ => rfl) o_add ?_
  refine PK_ialt2 104 9 (m.2 88) rfl rfl rfl q0 cut_r rfl ?_
  refine PK_iastt2 (a' := [(88, upI (m.2 88) (65536 * v0 + v2) ((m.2 88) (65536 * v0 + (cut (v2 + 1)))))]) 105 9 (m.2 88) rfl rfl rfl q0 q2 rfl rfl ?_
  refine P_ld 106 (.ref (tbr v0)) rfl (fun _ => rfl) ?_
  refine PK_gfr 109 rfl rfl q0.1 q0.2 rfl ?_
  refine P_ld 110 (.int (i32 v2)) rfl (fun _ => rfl) ?_
  refine P_ld 111 (.ref (tbr v0)) rfl (fun _ => rfl) ?_
  refine PK_gfr 114 rfl rfl q0.1 q0.2 rfl ?_
  refine P_ld 115 (.int (i32 v2)) rfl (fun _ => rfl) ?_
  refine P_ld 116 (.int (i32 1)) rfl (fun _ => rfl) ?_
  refine P_op 117 (cut (v2 + 1)) _ rfl (fun _ => rfl) o_add ?_
  refine PK_ialt2 118 10 (m.2 89) rfl rfl rfl q0 cut_r rfl ?_
  refine PK_iastt2 (a' := [(88, upI (m.2 88) (65536 * v0 + v2) ((m.2 88) (65536 * v0 + (cut (v2 + 1))))), (89, upI (m.2 89) (65536 * v0 + v2) ((m.2 89) (65536 * v0 + (cut (v2 + 1)))))]) 119 10 (m.2 89) rfl rfl rfl q0 q2 rfl rfl ?_
  refine P_inc 122 [(2, .int (i32 (cut (v2 + 1)))), (0, .ref (tbr v0)), (1, .int (i32 (j 1))), (3, .int (i32 (j 3)))] rfl rfl (by decide) rfl rfl ?_
  refine P_goto 2 rfl (fun _ => rfl) ?_
  refine P_some ?_
  refine P_lv (b := [(0, .ref (tbr v0)), (1, .int (i32 (j 1))), (2, .int (i32 (cut (v2 + 1)))), (3, .int (i32 (j 3)))]) rfl rfl ⟨rfl, rfl, rfl, rfl, trivial⟩ ?_
  exact H1 (cut (v2 + 1), (mO m [] [(88, upI (m.2 88) (65536 * v0 + v2) ((m.2 88) (65536 * v0 + (cut (v2 + 1))))), (89, upI (m.2 89) (65536 * v0 + v2) ((m.2 89) (65536 * v0 + (cut (v2 + 1)))))])) (jk [(1, j 1), (3, j 3)]) ⟨cut_r, (KCo_mO hm rfl rfl (KC6 hm rfl) trivial ⟨(kE_ui (KCn_a hm.1 88) rfl (kE_i (KCn_a hm.1 88) rfl _)), (kE_ui (KCn_a hm.1 89) rfl (kE_i (KCn_a hm.1 89) rfl _)), trivial⟩)⟩
def kfb_tb_remove_14 (v0 : Int) (v2 : Int) (s : Int × mR) : Option (Sum (Int × mR) (mR)) :=
  if (4 : Int) ≤ s.1 then
    some (.inr s.2)
  else
    some (.inl (cut (s.1 + 1), (mO s.2 [] [(85, upI (s.2.2 85) (65536 * v0 + (cut ((cut (v2 * 4)) + s.1))) ((s.2.2 85) (65536 * v0 + (cut ((cut ((cut (v2 * 4)) + 4)) + s.1))))), (86, upI (s.2.2 86) (65536 * v0 + (cut ((cut (v2 * 4)) + s.1))) ((s.2.2 86) (65536 * v0 + (cut ((cut ((cut (v2 * 4)) + 4)) + s.1))))), (87, upI (s.2.2 87) (65536 * v0 + (cut ((cut (v2 * 4)) + s.1))) ((s.2.2 87) (65536 * v0 + (cut ((cut ((cut (v2 * 4)) + 4)) + s.1)))))])))
theorem dh_tb_remove_14 (B : oB) (w : wX) (c : Nat → Option am_C) (N D : Nat) (v0 : Int) (v2 : Int) (q0 : Rt v0) (q2 : R32 v2) (bb : Nat) (Q2 : Sum (Int × mR) (mR) → ag_Re af_T → Prop) (H1 : ∀ s j, cs_tb_remove_14 B s → PP bb w D pm_190 (hd_tb_remove_14 B c N v0 v2 s j) (Q2 (.inl s))) (H2 : ∀ x j, cx_tb_remove_14 B x → PP bb w D pm_190 (ex_tb_remove_14 B c N v0 v2 x j) (Q2 (.inr x))) (s : Int × mR) (j : Nat → Int) (hs : cs_tb_remove_14 B s) : PP (bb + 1) w D pm_190 (hd_tb_remove_14 B c N v0 v2 s j) (QS Q2 (kfb_tb_remove_14 v0 v2 s)) := by
  obtain ⟨g3, gm⟩ := hs
  unfold kfb_tb_remove_14
  show PP (bb + 1) w D pm_190 (14, [(0, .ref (tbr v0)), (1, .int (i32 (j 1))), (2, .int (i32 v2)), (3, .int (i32 s.1))], [], (khp (mO s.2 [] []) c, N), 0, 0) _
  refine P1_ld 15 (.int (i32 s.1)) rfl (fun _ => rfl) ?_
  refine P_ld 16 (.int (i32 4)) rfl (fun _ => rfl) ?_
  refine P_icF 91 19 rfl rfl rfl g3 (l32 4 rfl) rfl (fun h4 => ?_) (fun h4 => ?_)
  · skip
    refine P_some ?_
    exact H2 s.2 (jk [(1, j 1), (3, s.1)]) gm
  · skip
    refine P_ld 20 (.ref (tbr v0)) rfl (fun _ => rfl) ?_
    refine PK_gfr 23 rfl rfl q0.1 q0.2 rfl ?_
    refine P_ld 24 (.int (i32 v2)) rfl (fun _ => rfl) ?_
    refine P_ld 25 (.int (i32 4)) rfl (fun _ => rfl) ?_
    refine P_op 26 (cut (v2 * 4)) _ rfl (fun _ => rfl) o_mul ?_
    refine P_ld 27 (.int (i32 s.1)) rfl (fun _ => rfl) ?_
    refine P_op 28 (cut ((cut (v2 * 4)) + s.1)) _ rfl (fun _ => rfl) o_add ?_
    refine P_ld 29 (.ref (tbr v0)) rfl (fun _ => rfl) ?_
    refine PK_gfr 32 rfl rfl q0.1 q0.2 rfl ?_
    refine P_ld 33 (.int (i32 v2)) rfl (fun _ => rfl) ?_
    refine P_ld 34 (.int (i32 4)) rfl (fun _ => rfl) ?_
    refine P_op 35 (cut (v2 * 4)) _ rfl (fun _ => rfl) o_mul ?_
    refine P_ld 36 (.int (i32 4)) rfl (fun _ => rfl) ?_
    refine P_op 37 (cut ((cut (v2 * 4)) + 4)) _ rfl (fun _ => rfl) o_add ?_
    refine P_ld 38 (.int (i32 s.1)) rfl (fun _ => rfl) ?_
    refine P_op 39 (cut ((cut ((cut (v2 * 4)) + 4)) + s.1)) _ rfl (fun _ => rfl) o_add ?_
    refine PK_lalt2 40 6 (s.2.2 85) rfl rfl rfl q0 cut_r rfl ?_
    refine PK_lastt2 (a' := [(85, upI (s.2.2 85) (65536 * v0 + (cut ((cut (v2 * 4)) + s.1))) ((s.2.2 85) (65536 * v0 + (cut ((cut ((cut (v2 * 4)) + 4)) + s.1)))))]) 41 6 (s.2.2 85) rfl rfl rfl q0 cut_r rfl rfl ?_
    refine P_ld 42 (.ref (tbr v0)) rfl (fun _ => rfl) ?_
    refine PK_gfr 45 rfl rfl q0.1 q0.2 rfl ?_
    refine P_ld 46 (.int (i32 v2)) rfl (fun _ => rfl) ?_
    refine P_ld 47 (.int (i32 4)) rfl (fun _ => rfl) ?_
    refine P_op 48 (cut (v2 * 4)) _ rfl (fun _ => rfl) o_mul ?_
    refine P_ld 49 (.int (i32 s.1)) rfl (fun _ => rfl) ?_
    refine P_op 50 (cut ((cut (v2 * 4)) + s.1)) _ rfl (fun _ => rfl) o_add ?_
    refine P_ld 51 (.ref (tbr v0)) rfl (fun _ => rfl) ?_
    refine PK_gfr 54 rfl rfl q0.1 q0.2 rfl ?_
    refine P_ld 55 (.int (i32 v2)) rfl (fun _ => rfl) ?_
    refine P_ld 56 (.int (i32 4)) rfl (fun _ => rfl) ?_
    refine P_op 57 (cut (v2 * 4)) _ rfl (fun _ => rfl) o_mul ?_
    refine P_ld 58 (.int (i32 4)) rfl (fun _ => rfl) ?_
    refine P_op 59 (cut ((cut (v2 * 4)) + 4)) _ rfl (fun _ => rfl) o_add ?_
    refine P_ld 60 (.int (i32 s.1)) rfl (fun _ => rfl) ?_
    refine P_op 61 (cut ((cut ((cut (v2 * 4)) + 4)) + s.1)) _ rfl (fun _ => rfl) o_add ?_
    refine PK_lalt2 62 7 (s.2.2 86) rfl rfl rfl q0 cut_r rfl ?_
    refine PK_lastt2 (a' := [(85, upI (s.2.2 85) (65536 * v0 + (cut ((cut (v2 * 4)) + s.1))) ((s.2.2 85) (65536 * v0 + (cut ((cut ((cut (v2 * 4)) + 4)) + s.1))))), (86, upI (s.2.2 86) (65536 * v0 + (cut ((cut (v2 * 4)) + s.1))) ((s.2.2 86) (65536 * v0 + (cut ((cut ((cut (v2 * 4)) + 4)) + s.1)))))]) 63 7 (s.2.2 86) rfl rfl rfl q0 cut_r rfl rfl ?_
    refine P_ld 64 (.ref (tbr v0)) rfl (fun _ => rfl) ?_
    refine PK_gfr 67 rfl rfl q0.1 q0.2 rfl ?_
    refine P_ld 68 (.int (i32 v2)) rfl (fun _ => rfl) ?_
    refine P_ld 69 (.int (i32 4)) rfl (fun _ => rfl) ?_
    refine P_op 70 (cut (v2 * 4)) _ rfl (fun _ => rfl) o_mul ?_
    refine P_ld 71 (.int (i32 s.1)) rfl (fun _ => rfl) ?_
    refine P_op 72 (cut ((cut (v2 * 4)) + s.1)) _ rfl (fun _ => rfl) o_add ?_
    refine P_ld 73 (.ref (tbr v0)) rfl (fun _ => rfl) ?_
    refine PK_gfr 76 rfl rfl q0.1 q0.2 rfl ?_
    refine P_ld 77 (.int (i32 v2)) rfl (fun _ => rfl) ?_
    refine P_ld 78 (.int (i32 4)) rfl (fun _ => rfl) ?_
    refine P_op 79 (cut (v2 * 4)) _ rfl (fun _ => rfl) o_mul ?_
    refine P_ld 80 (.int (i32 4)) rfl (fun _ => rfl) ?_
    refine P_op 81 (cut ((cut (v2 * 4)) + 4)) _ rfl (fun _ => rfl) o_add ?_
    refine P_ld 82 (.int (i32 s.1)) rfl (fun _ => rfl) ?_
    refine P_op 83 (cut ((cut ((cut (v2 * 4)) + 4)) + s.1)) _ rfl (fun _ => rfl) o_add ?_
    refine PK_lalt2 84 8 (s.2.2 87) rfl rfl rfl q0 cut_r rfl ?_
    refine PK_lastt2 (a' := [(85, upI (s.2.2 85) (65536 * v0 + (cut ((cut (v2 * 4)) + s.1))) ((s.2.2 85) (65536 * v0 + (cut ((cut ((cut (v2 * 4)) + 4)) + s.1))))), (86, upI (s.2.2 86) (65536 * v0 + (cut ((cut (v2 * 4)) + s.1))) ((s.2.2 86) (65536 * v0 + (cut ((cut ((cut (v2 * 4)) + 4)) + s.1))))), (87, upI (s.2.2 87) (65536 * v0 + (cut ((cut (v2 * 4)) + s.1))) ((s.2.2 87) (65536 * v0 + (cut ((cut ((cut (v2 * 4)) + 4)) + s.1)))))]) 85 8 (s.2.2 87) rfl rfl rfl q0 cut_r rfl rfl ?_
    refine P_inc 88 [(3, .int (i32 (cut (s.1 + 1)))), (0, .ref (tbr v0)), (1, .int (i32 (j 1))), (2, .int (i32 v2))] rfl rfl (by decide) rfl rfl ?_
    refine P_goto 14 rfl (fun _ => rfl) ?_
    refine P_some ?_
    refine P_lv (b := [(0, .ref (tbr v0)), (1, .int (i32 (j 1))), (2, .int (i32 v2)), (3, .int (i32 (cut (s.1 + 1))))]) rfl rfl ⟨rfl, rfl, rfl, rfl, trivial⟩ ?_
    exact H1 (cut (s.1 + 1), (mO s.2 [] [(85, upI (s.2.2 85) (65536 * v0 + (cut ((cut (v2 * 4)) + s.1))) ((s.2.2 85) (65536 * v0 + (cut ((cut ((cut (v2 * 4)) + 4)) + s.1))))), (86, upI (s.2.2 86) (65536 * v0 + (cut ((cut (v2 * 4)) + s.1))) ((s.2.2 86) (65536 * v0 + (cut ((cut ((cut (v2 * 4)) + 4)) + s.1))))), (87, upI (s.2.2 87) (65536 * v0 + (cut ((cut (v2 * 4)) + s.1))) ((s.2.2 87) (65536 * v0 + (cut ((cut ((cut (v2 * 4)) + 4)) + s.1)))))])) (jk [(1, j 1)]) ⟨cut_r, (KCo_mO gm rfl rfl (KC6 gm rfl) trivial ⟨(kE_ul (KCn_a gm.1 85) rfl (kE_l (KCn_a gm.1 85) rfl _)), (kE_ul (KCn_a gm.1 86) rfl (kE_l (KCn_a gm.1 86) rfl _)), (kE_ul (KCn_a gm.1 87) rfl (kE_l (KCn_a gm.1 87) rfl _)), trivial⟩)⟩
def kfb_tb_remove_2 (v0 : Int) (s : Int × mR) : Option (Sum (Int × mR) (mR)) :=
  if cut (((s.2.2 78) v0) - 1) ≤ s.1 then
    some (.inr s.2)
  else
    bnd (whl (kfb_tb_remove_14 v0 s.1) (0, s.2)) (fun e7 : mR =>
      kfl_tb_remove_91 v0 s.1 e7)
theorem dh_tb_remove_2 (B : oB) (w : wX) (c : Nat → Option am_C) (N D : Nat) (v0 : Int) (q0 : Rt v0) (bb : Nat) (Q2 : Sum (Int × mR) (mR) → ag_Re af_T → Prop) (H1 : ∀ s j, cs_tb_remove_2 B s → PP bb w D pm_190 (hd_tb_remove_2 B c N v0 s j) (Q2 (.inl s))) (H2 : ∀ x j, cx_tb_remove_2 B x → PP bb w D pm_190 (ex_tb_remove_2 B c N v0 x j) (Q2 (.inr x))) (s : Int × mR) (j : Nat → Int) (hs : cs_tb_remove_2 B s) : PP (bb + 1) w D pm_190 (hd_tb_remove_2 B c N v0 s j) (QS Q2 (kfb_tb_remove_2 v0 s)) := by
  obtain ⟨g2, gm⟩ := hs
  unfold kfb_tb_remove_2
  show PP (bb + 1) w D pm_190 (2, [(0, .ref (tbr v0)), (1, .int (i32 (j 1))), (2, .int (i32 s.1)), (3, .int (i32 (j 3)))], [], (khp (mO s.2 [] []) c, N), 0, 0) _
  refine P1_ld 3 (.int (i32 s.1)) rfl (fun _ => rfl) ?_
  refine P_ld 4 (.ref (tbr v0)) rfl (fun _ => rfl) ?_
  refine PK_gfi 7 78 (s.2.2 78) rfl rfl q0.1 q0.2 rfl rfl ?_
  refine P_ld 8 (.int (i32 1)) rfl (fun _ => rfl) ?_
  refine P_op 9 (cut (((s.2.2 78) v0) - 1)) _ rfl (fun _ => rfl) o_sub ?_
  refine P_icF 125 12 rfl rfl rfl g2 cut_r rfl (fun h6 => ?_) (fun h6 => ?_)
  · skip
    refine P_some ?_
    exact H2 s.2 (jk [(1, j 1), (2, s.1), (3, j 3)]) gm
  · skip
    refine P_ld 13 (.int (i32 0)) rfl (fun _ => rfl) ?_
    refine P_sto 14 [(3, .int (i32 0)), (0, .ref (tbr v0)), (1, .int (i32 (j 1))), (2, .int (i32 s.1))] rfl (fun _ => rfl) ?_
    refine P_lv (b := [(0, .ref (tbr v0)), (1, .int (i32 (j 1))), (2, .int (i32 s.1)), (3, .int (i32 0))]) rfl rfl ⟨rfl, rfl, rfl, rfl, trivial⟩ ?_
    refine P_bnd ?_
    refine P_whl (fun bb Q2 H1 H2 s9 j9 hs9 => dh_tb_remove_14 B w c N D v0 s.1 q0 g2 bb Q2 H1 H2 s9 j9 hs9) bb (fun e7 j q8 => ?_) (0, s.2) (jk [(1, j 1)]) ⟨(l32 0 rfl), gm⟩
    have q9 := q8
    show PP bb w D pm_190 (91, [(0, .ref (tbr v0)), (1, .int (i32 (j 1))), (2, .int (i32 s.1)), (3, .int (i32 (j 3)))], [], (khp (mO e7 [] []) c, N), 0, 0) (QS _ (kfl_tb_remove_91 v0 s.1 e7))
    exact dg_tb_remove_91 B w c N D bb v0 s.1 q0 g2 e7 q9 (jk [(1, j 1), (3, j 3)]) Q2 H1 H2
def kf_tb_remove (v0 : Int) (v1 : Int) (m : mR) : Option (Int × mR) :=
  bnd (whl (kfb_tb_remove_2 v0) (v1, m)) (fun e10 : mR =>
    kfl_tb_remove_125 v0 e10)
theorem D_tb_remove (B : oB) (w : wX) (m : mR) (c : Nat → Option am_C) (N D : Nat) (hm : KCo B m) (v0 : Int) (v1 : Int) (q0 : Rt v0) (q1 : R32 v1) : PC w D 190 [.ref (tbr v0), .int (i32 v1)] (khp m c, N) (QS (FO0 B c N) (kf_tb_remove v0 v1 m)) := by
  refine Pc_of (fun D bb => ?_) D
  unfold kf_tb_remove
  show PP bb w D pm_190 (0, [(0, .ref (tbr v0)), (1, .int (i32 v1))], [], (khp (mO m [] []) c, N), 0, 0) _
  refine P_ld 1 (.int (i32 v1)) rfl (fun _ => rfl) ?_
  refine P_sto 2 [(2, .int (i32 v1)), (0, .ref (tbr v0)), (1, .int (i32 v1))] rfl (fun _ => rfl) ?_
  refine P_lv (b := [(0, .ref (tbr v0)), (1, .int (i32 v1)), (2, .int (i32 v1)), (3, .int (i32 0))]) rfl rfl ⟨rfl, rfl, rfl, trivial⟩ ?_
  refine P_bnd ?_
  refine P_whl (fun bb Q2 H1 H2 s9 j9 hs9 => dh_tb_remove_2 B w c N D v0 q0 bb Q2 H1 H2 s9 j9 hs9) bb (fun e10 j q11 => ?_) (v1, m) (jk [(1, v1)]) ⟨q1, hm⟩
  have q12 := q11
  show PP bb w D pm_190 (125, [(0, .ref (tbr v0)), (1, .int (i32 (j 1))), (2, .int (i32 (j 2))), (3, .int (i32 (j 3)))], [], (khp (mO e10 [] []) c, N), 0, 0) (QS _ (kfl_tb_remove_125 v0 e10))
  exact dg_tb_remove_125 B w c N D bb v0 q0 e10 q12 (jk [(1, j 1), (2, j 2), (3, j 3)])
def cs_tb_serve_147 (B : oB) (s : Int × mR) : Prop := R32 s.1 ∧ KCo B s.2
def cx_tb_serve_147 (B : oB) : (mR) → Prop := (fun (e : mR) => KCo B e)
def hd_tb_serve_147 (B : oB) (c : Nat → Option am_C) (N : Nat) (v0 : Int) (v1 : Int) (v5 : Int) (s : Int × mR) (j : Nat → Int) : ag_St af_T := (147, [(0, .ref (tbr v0)), (1, .ref (obo B v1)), (2, .ref 45), (3, .int (i32 (j 3))), (4, .int (i32 (j 4))), (5, .int (i32 v5)), (6, .int (i32 (j 6))), (7, .int (i32 s.1)), (8, .int (i32 (j 8)))], [], (khp s.2 c, N), 0, 0)
def ex_tb_serve_147 (B : oB) (c : Nat → Option am_C) (N : Nat) (v0 : Int) (v1 : Int) (v5 : Int) : (mR) → (Nat → Int) → ag_St af_T := (fun (e : mR) (j : Nat → Int) => ((208, [(0, .ref (tbr (j 0))), (1, .ref (obo B (j 1))), (2, .ref 45), (3, .int (i32 (j 3))), (4, .int (i32 (j 4))), (5, .int (i32 (j 5))), (6, .int (i32 (j 6))), (7, .int (i32 (j 7))), (8, .int (i32 (j 8)))], [], (khp e c, N), 0, 0) : ag_St af_T))
def kfb_tb_serve_147 (v0 : Int) (v1 : Int) (v5 : Int) (s : Int × mR) : Option (Sum (Int × mR) (mR)) :=
  if (s.2.2 39) ((s.2.2 97) v1) ≤ s.1 then
    some (.inr s.2)
  else
    bnd (kf_pw_ones ((s.2.2 40) (cut ((cut (((s.2.2 97) v1) * 4)) + s.1))) s.2) fun y4 =>
    some (.inl (cut (s.1 + 1), (mO s.2 [] [(87, upI (s.2.2 87) (65536 * v0 + (cut ((cut (v5 * 4)) + s.1))) (and64 ((s.2.2 105) (65536 * v1 + s.1)) y4))])))
theorem dh_tb_serve_147 (B : oB) (w : wX) (c : Nat → Option am_C) (N D : Nat) (v0 : Int) (v1 : Int) (v5 : Int) (q0 : Rt v0) (q1 : OKo B v1) (q5 : R32 v5) (bb : Nat) (Q2 : Sum (Int × mR) (mR) → ag_Re af_T → Prop) (H1 : ∀ s j, cs_tb_serve_147 B s → PP bb w D pm_187 (hd_tb_serve_147 B c N v0 v1 v5 s j) (Q2 (.inl s))) (H2 : ∀ x j, cx_tb_serve_147 B x → PP bb w D pm_187 (ex_tb_serve_147 B c N v0 v1 v5 x j) (Q2 (.inr x))) (s : Int × mR) (j : Nat → Int) (hs : cs_tb_serve_147 B s) : PP (bb + 1) w D pm_187 (hd_tb_serve_147 B c N v0 v1 v5 s j) (QS Q2 (kfb_tb_serve_147 v0 v1 v5 s)) := by
  obtain ⟨g7, gm⟩ := hs
  unfold kfb_tb_serve_147
  show PP (bb + 1) w D pm_187 (147, [(0, .ref (tbr v0)), (1, .ref (obo B v1)), (2, .ref 45), (3, .int (i32 (j 3))), (4, .int (i32 (j 4))), (5, .int (i32 v5)), (6, .int (i32 (j 6))), (7, .int (i32 s.1)), (8, .int (i32 (j 8)))], [], (khp (mO s.2 [] []) c, N), 0, 0) _
  refine P1_ld 149 (.int (i32 s.1)) rfl (fun _ => rfl) ?_
  refine P_ld 150 (.ref 45) rfl (fun _ => rfl) ?_
  refine PK_gf 153 (.ref 46) rfl rfl kd_45 rfl rfl rfl ?_
  refine P_ld 154 (.ref (obo B v1)) rfl (fun _ => rfl) ?_
  refine PK_goi 157 97 (s.2.2 97) rfl rfl (OKr_o gm rfl rfl q1) (obr_o gm rfl) rfl rfl ?_
  refine PK_iald2 158 39 (s.2.2 39) rfl rfl rfl (kE_i (KCn_a gm.1 97) rfl _) rfl ?_
  refine P_icF 208 161 rfl rfl rfl g7 (kE_i (KCn_a gm.1 39) rfl _) rfl (fun h3 => ?_) (fun h3 => ?_)
  · skip
    refine P_some ?_
    exact H2 s.2 (jk [(0, v0), (1, v1), (3, j 3), (4, j 4), (5, v5), (6, j 6), (7, s.1), (8, j 8)]) gm
  · skip
    refine P_ld 162 (.ref 45) rfl (fun _ => rfl) ?_
    refine PK_gf 165 (.ref 47) rfl rfl kd_45 rfl rfl rfl ?_
    refine P_ld 166 (.ref (obo B v1)) rfl (fun _ => rfl) ?_
    refine PK_goi 169 97 (s.2.2 97) rfl rfl (OKr_o gm rfl rfl q1) (obr_o gm rfl) rfl rfl ?_
    refine P_ld 170 (.int (i32 4)) rfl (fun _ => rfl) ?_
    refine P_op 171 (cut (((s.2.2 97) v1) * 4)) _ rfl (fun _ => rfl) o_mul ?_
    refine P_ld 173 (.int (i32 s.1)) rfl (fun _ => rfl) ?_
    refine P_op 174 (cut ((cut (((s.2.2 97) v1) * 4)) + s.1)) _ rfl (fun _ => rfl) o_add ?_
    refine PK_iald2 175 40 (s.2.2 40) rfl rfl rfl cut_r rfl ?_
    refine P_sto 177 [(8, .int (i32 ((s.2.2 40) (cut ((cut (((s.2.2 97) v1) * 4)) + s.1))))), (0, .ref (tbr v0)), (1, .ref (obo B v1)), (2, .ref 45), (3, .int (i32 (j 3))), (4, .int (i32 (j 4))), (5, .int (i32 v5)), (6, .int (i32 (j 6))), (7, .int (i32 s.1))] rfl (fun _ => rfl) ?_
    refine P_ld 178 (.ref (tbr v0)) rfl (fun _ => rfl) ?_
    refine PK_gfr 181 rfl rfl q0.1 q0.2 rfl ?_
    refine P_ld 183 (.int (i32 v5)) rfl (fun _ => rfl) ?_
    refine P_ld 184 (.int (i32 4)) rfl (fun _ => rfl) ?_
    refine P_op 185 (cut (v5 * 4)) _ rfl (fun _ => rfl) o_mul ?_
    refine P_ld 187 (.int (i32 s.1)) rfl (fun _ => rfl) ?_
    refine P_op 188 (cut ((cut (v5 * 4)) + s.1)) _ rfl (fun _ => rfl) o_add ?_
    refine P_ld 189 (.ref (obo B v1)) rfl (fun _ => rfl) ?_
    refine PK_gor 192 rfl rfl (OKr_o gm rfl rfl q1) (obr_o gm rfl) rfl ?_
    refine P_ld 194 (.int (i32 s.1)) rfl (fun _ => rfl) ?_
    refine PK_lalo2 195 5 (s.2.2 105) rfl rfl rfl gm rfl rfl q1 g7 rfl ?_
    refine P_ld 197 (.int (i32 ((s.2.2 40) (cut ((cut (((s.2.2 97) v1) * 4)) + s.1))))) rfl (fun _ => rfl) ?_
    refine P_cp2 200 116 [.int (i32 ((s.2.2 40) (cut ((cut (((s.2.2 97) v1) * 4)) + s.1))))] [.long (i64 ((s.2.2 105) (65536 * v1 + s.1))), .int (i32 (cut ((cut (v5 * 4)) + s.1))), .ref (tbr v0 + (8 + 1))] rfl (fun _ => rfl) rfl (D_pw_ones w s.2 c N D gm.1 ((s.2.2 40) (cut ((cut (((s.2.2 97) v1) * 4)) + s.1))) (kE_i (KCn_a gm.1 40) rfl _)) (fun y4 h5 => ?_)
    refine P_opl 201 (and64 ((s.2.2 105) (65536 * v1 + s.1)) y4) _ rfl (fun _ => rfl) (Int64.ofInt_toInt _).symm ?_
    refine PK_lastt2 (a' := [(87, upI (s.2.2 87) (65536 * v0 + (cut ((cut (v5 * 4)) + s.1))) (and64 ((s.2.2 105) (65536 * v1 + s.1)) y4))]) 202 8 (s.2.2 87) rfl rfl rfl q0 cut_r rfl rfl ?_
    refine P_inc 205 [(7, .int (i32 (cut (s.1 + 1)))), (8, .int (i32 ((s.2.2 40) (cut ((cut (((s.2.2 97) v1) * 4)) + s.1))))), (0, .ref (tbr v0)), (1, .ref (obo B v1)), (2, .ref 45), (3, .int (i32 (j 3))), (4, .int (i32 (j 4))), (5, .int (i32 v5)), (6, .int (i32 (j 6)))] rfl rfl (by decide) rfl rfl ?_
    refine P_goto 147 rfl (fun _ => rfl) ?_
    refine P_some ?_
    refine P_lv (b := [(0, .ref (tbr v0)), (1, .ref (obo B v1)), (2, .ref 45), (3, .int (i32 (j 3))), (4, .int (i32 (j 4))), (5, .int (i32 v5)), (6, .int (i32 (j 6))), (7, .int (i32 (cut (s.1 + 1)))), (8, .int (i32 ((s.2.2 40) (cut ((cut (((s.2.2 97) v1) * 4)) + s.1)))))]) rfl rfl ⟨rfl, rfl, rfl, rfl, rfl, rfl, rfl, rfl, rfl, trivial⟩ ?_
    exact H1 (cut (s.1 + 1), (mO s.2 [] [(87, upI (s.2.2 87) (65536 * v0 + (cut ((cut (v5 * 4)) + s.1))) (and64 ((s.2.2 105) (65536 * v1 + s.1)) y4))])) (jk [(3, j 3), (4, j 4), (6, j 6), (8, (s.2.2 40) (cut ((cut (((s.2.2 97) v1) * 4)) + s.1)))]) ⟨cut_r, (KCo_mO gm rfl rfl (KC6 gm rfl) trivial ⟨(kE_ul (KCn_a gm.1 87) rfl t64_r), trivial⟩)⟩
def kfl_tb_serve_133 (v0 : Int) (v1 : Int) (v5 : Int) (m : mR) : Option (Int × mR) :=
  bnd (whl (kfb_tb_serve_147 v0 v1 v5) (0, (mO m [] [(89, upI (m.2 89) (65536 * v0 + v5) ((m.2 97) v1))]))) (fun e7 : mR =>
    some (0, e7))
theorem dg_tb_serve_133 (B : oB) (w : wX) (c : Nat → Option am_C) (N D : Nat) (bb : Nat) (v0 : Int) (v1 : Int) (v5 : Int) (q0 : Rt v0) (q1 : OKo B v1) (q5 : R32 v5) (m : mR) (hm : KCo B m) (j : Nat → Int) : PP bb w D pm_187 (133, [(0, .ref (tbr v0)), (1, .ref (obo B v1)), (2, .ref 45), (3, .int (i32 (j 3))), (4, .int (i32 (j 4))), (5, .int (i32 v5)), (6, .int (i32 (j 6)))], [], (khp m c, N), 0, 0) (QS (FO1 B c N) (kfl_tb_serve_133 v0 v1 v5 m)) := by
  unfold kfl_tb_serve_133
  show PP bb w D pm_187 (133, [(0, .ref (tbr v0)), (1, .ref (obo B v1)), (2, .ref 45), (3, .int (i32 (j 3))), (4, .int (i32 (j 4))), (5, .int (i32 v5)), (6, .int (i32 (j 6)))], [], (khp (mO m [] []) c, N), 0, 0) _
  refine P_ld 134 (.ref (tbr v0)) rfl (fun _ => rfl) ?_
  refine PK_gfr 137 rfl rfl q0.1 q0.2 rfl ?_
  refine P_ld 139 (.int (i32 v5)) rfl (fun _ => rfl) ?_
  refine P_ld 140 (.ref (obo B v1)) rfl (fun _ => rfl) ?_
  refine PK_goi 143 97 (m.2 97) rfl rfl (OKr_o hm rfl rfl q1) (obr_o hm rfl) rfl rfl ?_
  refine PK_iastt2 (a' := [(89, upI (m.2 89) (65536 * v0 + v5) ((m.2 97) v1))]) 144 10 (m.2 89) rfl rfl rfl q0 q5 rfl rfl ?_
  refine P_ld 145 (.int (i32 0)) rfl (fun _ => rfl) ?_
  refine P_sto 147 [(7, .int (i32 0)), (0, .ref (tbr v0)), (1, .ref (obo B v1)), (2, .ref 45), (3, .int (i32 (j 3))), (4, .int (i32 (j 4))), (5, .int (i32 v5)), (6, .int (i32 (j 6)))] rfl (fun _ => rfl) ?_
  refine P_lv (b := [(0, .ref (tbr v0)), (1, .ref (obo B v1)), (2, .ref 45), (3, .int (i32 (j 3))), (4, .int (i32 (j 4))), (5, .int (i32 v5)), (6, .int (i32 (j 6))), (7, .int (i32 0)), (8, .int (i32 0))]) rfl rfl ⟨rfl, rfl, rfl, rfl, rfl, rfl, rfl, rfl, trivial⟩ ?_
  refine P_bnd ?_
  refine P_whl (fun bb Q2 H1 H2 s9 j9 hs9 => dh_tb_serve_147 B w c N D v0 v1 v5 q0 q1 q5 bb Q2 H1 H2 s9 j9 hs9) bb (fun e7 j q8 => ?_) (0, (mO m [] [(89, upI (m.2 89) (65536 * v0 + v5) ((m.2 97) v1))])) (jk [(3, j 3), (4, j 4), (6, j 6)]) ⟨(l32 0 rfl), (KCo_mO hm rfl rfl (KC6 hm rfl) trivial ⟨(kE_ui (KCn_a hm.1 89) rfl (kE_i (KCn_a hm.1 97) rfl _)), trivial⟩)⟩
  have q9 := q8
  show PP bb w D pm_187 (208, [(0, .ref (tbr (j 0))), (1, .ref (obo B (j 1))), (2, .ref 45), (3, .int (i32 (j 3))), (4, .int (i32 (j 4))), (5, .int (i32 (j 5))), (6, .int (i32 (j 6))), (7, .int (i32 (j 7))), (8, .int (i32 (j 8)))], [], (khp (mO e7 [] []) c, N), 0, 0) (QS _ (some (0, e7)))
  refine P_ld 209 (.int (i32 0)) rfl (fun _ => rfl) ?_
  exact P_ro1 rfl (l32 0 rfl) q9
def kfl_tb_serve_92 (v0 : Int) (v1 : Int) (v4 : Int) (v5 : Int) (v6 : Int) (u0 : Int) (u1 : Int) (m : mR) : Option (Int × mR) :=
  if u0 = u1 then
    if v4 = 0 then
      if v6 = 0 then
        kfl_tb_serve_133 v0 v1 v5 m
      else
        bnd (kf_tb_append v0 v1 m) fun y13 =>
        if y13.1 = 0 then
          some (1, y13.2)
        else
          kfl_tb_serve_133 v0 v1 (cut (((y13.2.2 78) v0) - 1)) y13.2
    else
      bnd (kf_tb_remove v0 v5 m) fun y17 =>
      some (0, y17.2)
  else
    some (1, m)
theorem dg_tb_serve_92 (B : oB) (w : wX) (c : Nat → Option am_C) (N D : Nat) (bb : Nat) (v0 : Int) (v1 : Int) (v4 : Int) (v5 : Int) (v6 : Int) (u0 : Int) (u1 : Int) (q0 : Rt v0) (q1 : OKo B v1) (q4 : R32 v4) (q5 : R32 v5) (q6 : R32 v6) (r0 : R32 u0) (r1 : R32 u1) (m : mR) (hm : KCo B m) (j : Nat → Int) : PP bb w D pm_187 (92, [(0, .ref (tbr v0)), (1, .ref (obo B v1)), (2, .ref 45), (3, .int (i32 (j 3))), (4, .int (i32 v4)), (5, .int (i32 v5)), (6, .int (i32 v6))], [.int (i32 u1), .int (i32 u0)], (khp m c, N), 0, 0) (QS (FO1 B c N) (kfl_tb_serve_92 v0 v1 v4 v5 v6 u0 u1 m)) := by
  unfold kfl_tb_serve_92
  show PP bb w D pm_187 (92, [(0, .ref (tbr v0)), (1, .ref (obo B v1)), (2, .ref 45), (3, .int (i32 (j 3))), (4, .int (i32 v4)), (5, .int (i32 v5)), (6, .int (i32 v6))], [.int (i32 u1), .int (i32 u0)], (khp (mO m [] []) c, N), 0, 0) _
  refine P_icF 97 95 rfl rfl rfl r0 r1 rfl (fun h10 => ?_) (fun h10 => ?_)
  · skip
    refine P_ld 99 (.int (i32 v4)) rfl (fun _ => rfl) ?_
    refine P_ifF 110 102 rfl rfl rfl q4 rfl (fun h11 => ?_) (fun h11 => ?_)
    · skip
      refine P_ld 112 (.int (i32 v6)) rfl (fun _ => rfl) ?_
      refine P_ifF 133 115 rfl rfl rfl q6 rfl (fun h12 => ?_) (fun h12 => ?_)
      · skip
        exact dg_tb_serve_133 B w c N D bb v0 v1 v5 q0 q1 q5 m hm (jk [(3, j 3), (4, v4), (6, v6)])
      · skip
        refine P_ld 116 (.ref (tbr v0)) rfl (fun _ => rfl) ?_
        refine P_ld 117 (.ref (obo B v1)) rfl (fun _ => rfl) ?_
        refine P_co1 120 191 [.ref (tbr v0), .ref (obo B v1)] [] rfl (inv_vt (args := [.ref (obo B v1)]) (khp_t0 _ q0.1 q0.2) rfl rfl rfl) rfl (D_tb_append B w m c N D hm v0 v1 q0 q1) (fun y13 h14 n15 => ?_)
        refine P_ifE 125 123 rfl rfl rfl h14 rfl (fun h16 => ?_) (fun h16 => ?_)
        · skip
          refine P_ld 124 (.int (i32 1)) rfl (fun _ => rfl) ?_
          exact P_ro1 rfl (l32 1 rfl) n15
        · skip
          refine P_ld 126 (.ref (tbr v0)) rfl (fun _ => rfl) ?_
          refine PK_gfi 129 78 (y13.2.2 78) rfl rfl q0.1 q0.2 rfl rfl ?_
          refine P_ld 130 (.int (i32 1)) rfl (fun _ => rfl) ?_
          refine P_op 131 (cut (((y13.2.2 78) v0) - 1)) _ rfl (fun _ => rfl) o_sub ?_
          refine P_sto 133 [(5, .int (i32 (cut (((y13.2.2 78) v0) - 1)))), (0, .ref (tbr v0)), (1, .ref (obo B v1)), (2, .ref 45), (3, .int (i32 (j 3))), (4, .int (i32 v4)), (6, .int (i32 v6))] rfl (fun _ => rfl) ?_
          refine P_lv (b := [(0, .ref (tbr v0)), (1, .ref (obo B v1)), (2, .ref 45), (3, .int (i32 (j 3))), (4, .int (i32 v4)), (5, .int (i32 (cut (((y13.2.2 78) v0) - 1)))), (6, .int (i32 v6))]) rfl rfl ⟨rfl, rfl, rfl, rfl, rfl, rfl, rfl, trivial⟩ ?_
          exact dg_tb_serve_133 B w c N D bb v0 v1 (cut (((y13.2.2 78) v0) - 1)) q0 q1 cut_r y13.2 n15 (jk [(3, j 3), (4, v4), (6, v6)])
    · skip
      refine P_ld 103 (.ref (tbr v0)) rfl (fun _ => rfl) ?_
      refine P_ld 105 (.int (i32 v5)) rfl (fun _ => rfl) ?_
      refine P_co0 108 190 [.ref (tbr v0), .int (i32 v5)] [] rfl (inv_vt (args := [.int (i32 v5)]) (khp_t0 _ q0.1 q0.2) rfl rfl rfl) rfl (D_tb_remove B w m c N D hm v0 v5 q0 q5) (fun y17 n19 => ?_)
      refine P_ld 109 (.int (i32 0)) rfl (fun _ => rfl) ?_
      exact P_ro1 rfl (l32 0 rfl) n19
  · skip
    refine P_ld 96 (.int (i32 1)) rfl (fun _ => rfl) ?_
    exact P_ro1 rfl (l32 1 rfl) hm
def kfl_tb_serve_77 (v0 : Int) (v1 : Int) (v4 : Int) (v5 : Int) (u0 : Int) (m : mR) : Option (Int × mR) :=
  if v5 = (-1) then
    kfl_tb_serve_92 v0 v1 v4 v5 u0 u0 1 m
  else
    kfl_tb_serve_92 v0 v1 v4 v5 u0 u0 0 m
theorem dg_tb_serve_77 (B : oB) (w : wX) (c : Nat → Option am_C) (N D : Nat) (bb : Nat) (v0 : Int) (v1 : Int) (v4 : Int) (v5 : Int) (u0 : Int) (q0 : Rt v0) (q1 : OKo B v1) (q4 : R32 v4) (q5 : R32 v5) (r0 : R32 u0) (m : mR) (hm : KCo B m) (j : Nat → Int) : PP bb w D pm_187 (77, [(0, .ref (tbr v0)), (1, .ref (obo B v1)), (2, .ref 45), (3, .int (i32 (j 3))), (4, .int (i32 v4)), (5, .int (i32 v5))], [.int (i32 u0)], (khp m c, N), 0, 0) (QS (FO1 B c N) (kfl_tb_serve_77 v0 v1 v4 v5 u0 m)) := by
  unfold kfl_tb_serve_77
  show PP bb w D pm_187 (77, [(0, .ref (tbr v0)), (1, .ref (obo B v1)), (2, .ref 45), (3, .int (i32 (j 3))), (4, .int (i32 v4)), (5, .int (i32 v5))], [.int (i32 u0)], (khp (mO m [] []) c, N), 0, 0) _
  refine P_sto 79 [(6, .int (i32 u0)), (0, .ref (tbr v0)), (1, .ref (obo B v1)), (2, .ref 45), (3, .int (i32 (j 3))), (4, .int (i32 v4)), (5, .int (i32 v5))] rfl (fun _ => rfl) ?_
  refine P_ld 81 (.int (i32 u0)) rfl (fun _ => rfl) ?_
  refine P_ld 83 (.int (i32 v5)) rfl (fun _ => rfl) ?_
  refine P_ld 84 (.int (i32 (-1))) rfl (fun _ => rfl) ?_
  refine P_icE 91 87 rfl rfl rfl q5 (l32 (-1) rfl) rfl (fun h20 => ?_) (fun h20 => ?_)
  · skip
    refine P_ld 88 (.int (i32 1)) rfl (fun _ => rfl) ?_
    refine P_goto 92 rfl (fun _ => rfl) ?_
    refine P_lv (b := [(0, .ref (tbr v0)), (1, .ref (obo B v1)), (2, .ref 45), (3, .int (i32 (j 3))), (4, .int (i32 v4)), (5, .int (i32 v5)), (6, .int (i32 u0))]) rfl rfl ⟨rfl, rfl, rfl, rfl, rfl, rfl, rfl, trivial⟩ ?_
    exact dg_tb_serve_92 B w c N D bb v0 v1 v4 v5 u0 u0 1 q0 q1 q4 q5 r0 r0 (l32 1 rfl) m hm (jk [(3, j 3)])
  · skip
    refine P_ld 92 (.int (i32 0)) rfl (fun _ => rfl) ?_
    refine P_lv (b := [(0, .ref (tbr v0)), (1, .ref (obo B v1)), (2, .ref 45), (3, .int (i32 (j 3))), (4, .int (i32 v4)), (5, .int (i32 v5)), (6, .int (i32 u0))]) rfl rfl ⟨rfl, rfl, rfl, rfl, rfl, rfl, rfl, trivial⟩ ?_
    exact dg_tb_serve_92 B w c N D bb v0 v1 v4 v5 u0 u0 0 q0 q1 q4 q5 r0 r0 (l32 0 rfl) m hm (jk [(3, j 3)])
def kfl_tb_serve_50 (v0 : Int) (v1 : Int) (v4 : Int) (m : mR) : Option (Int × mR) :=
  bnd (kf_tb_same_b103_b104 v0 v1 v1 m) fun y21 =>
  if (m.2 91) v1 = 1 then
    kfl_tb_serve_77 v0 v1 v4 y21 1 m
  else
    kfl_tb_serve_77 v0 v1 v4 y21 0 m
theorem dg_tb_serve_50 (B : oB) (w : wX) (c : Nat → Option am_C) (N D : Nat) (bb : Nat) (v0 : Int) (v1 : Int) (v4 : Int) (q0 : Rt v0) (q1 : OKo B v1) (q4 : R32 v4) (m : mR) (hm : KCo B m) (j : Nat → Int) : PP bb w D pm_187 (50, [(0, .ref (tbr v0)), (1, .ref (obo B v1)), (2, .ref 45), (3, .int (i32 (j 3))), (4, .int (i32 v4))], [], (khp m c, N), 0, 0) (QS (FO1 B c N) (kfl_tb_serve_50 v0 v1 v4 m)) := by
  unfold kfl_tb_serve_50
  show PP bb w D pm_187 (50, [(0, .ref (tbr v0)), (1, .ref (obo B v1)), (2, .ref 45), (3, .int (i32 (j 3))), (4, .int (i32 v4))], [], (khp (mO m [] []) c, N), 0, 0) _
  refine P_ld 51 (.ref (tbr v0)) rfl (fun _ => rfl) ?_
  refine P_ld 52 (.ref (obo B v1)) rfl (fun _ => rfl) ?_
  refine PK_gor 55 rfl rfl (OKr_o hm rfl rfl q1) (obr_o hm rfl) rfl ?_
  refine P_ld 56 (.ref (obo B v1)) rfl (fun _ => rfl) ?_
  refine PK_gor 59 rfl rfl (OKr_o hm rfl rfl q1) (obr_o hm rfl) rfl ?_
  refine P_cp1 62 189 [.ref (tbr v0), .ref (obo B v1 + (3 + 1)), .ref (obo B v1 + (4 + 1))] [] rfl (inv_vt (args := [.ref (obo B v1 + (4 + 1)), .ref (obo B v1 + (3 + 1))]) (khp_t0 _ q0.1 q0.2) rfl rfl rfl) rfl (D_tb_same_b103_b104 B w m c N D hm v0 v1 v1 q0 q1 q1) (fun y21 h22 => ?_)
  refine P_sto 64 [(5, .int (i32 y21)), (0, .ref (tbr v0)), (1, .ref (obo B v1)), (2, .ref 45), (3, .int (i32 (j 3))), (4, .int (i32 v4))] rfl (fun _ => rfl) ?_
  refine P_ld 65 (.ref (obo B v1)) rfl (fun _ => rfl) ?_
  refine PK_goi 68 91 (m.2 91) rfl rfl (OKr_o hm rfl rfl q1) (obr_o hm rfl) rfl rfl ?_
  refine P_ld 69 (.int (i32 1)) rfl (fun _ => rfl) ?_
  refine P_icE 76 72 rfl rfl rfl (kE_i (KCn_a hm.1 91) rfl _) (l32 1 rfl) rfl (fun h24 => ?_) (fun h24 => ?_)
  · skip
    refine P_ld 73 (.int (i32 1)) rfl (fun _ => rfl) ?_
    refine P_goto 77 rfl (fun _ => rfl) ?_
    refine P_lv (b := [(0, .ref (tbr v0)), (1, .ref (obo B v1)), (2, .ref 45), (3, .int (i32 (j 3))), (4, .int (i32 v4)), (5, .int (i32 y21))]) rfl rfl ⟨rfl, rfl, rfl, rfl, rfl, rfl, trivial⟩ ?_
    exact dg_tb_serve_77 B w c N D bb v0 v1 v4 y21 1 q0 q1 q4 h22 (l32 1 rfl) m hm (jk [(3, j 3)])
  · skip
    refine P_ld 77 (.int (i32 0)) rfl (fun _ => rfl) ?_
    refine P_lv (b := [(0, .ref (tbr v0)), (1, .ref (obo B v1)), (2, .ref 45), (3, .int (i32 (j 3))), (4, .int (i32 v4)), (5, .int (i32 y21))]) rfl rfl ⟨rfl, rfl, rfl, rfl, rfl, rfl, trivial⟩ ?_
    exact dg_tb_serve_77 B w c N D bb v0 v1 v4 y21 0 q0 q1 q4 h22 (l32 0 rfl) m hm (jk [(3, j 3)])
def kfl_tb_serve_26 (v0 : Int) (v1 : Int) (v3 : Int) (u0 : Int) (m : mR) : Option (Int × mR) :=
  if v3 = 0 then
    some (1, m)
  else
    if u0 = 0 then
      bnd (kf_tb_lists v0 ((m.2 97) v1) m) fun y27 =>
      if y27 = 0 then
        some (1, m)
      else
        kfl_tb_serve_50 v0 v1 u0 m
    else
      kfl_tb_serve_50 v0 v1 u0 m
theorem dg_tb_serve_26 (B : oB) (w : wX) (c : Nat → Option am_C) (N D : Nat) (bb : Nat) (v0 : Int) (v1 : Int) (v3 : Int) (u0 : Int) (q0 : Rt v0) (q1 : OKo B v1) (q3 : R32 v3) (r0 : R32 u0) (m : mR) (hm : KCo B m) (j : Nat → Int) : PP bb w D pm_187 (26, [(0, .ref (tbr v0)), (1, .ref (obo B v1)), (2, .ref 45), (3, .int (i32 v3))], [.int (i32 u0)], (khp m c, N), 0, 0) (QS (FO1 B c N) (kfl_tb_serve_26 v0 v1 v3 u0 m)) := by
  unfold kfl_tb_serve_26
  show PP bb w D pm_187 (26, [(0, .ref (tbr v0)), (1, .ref (obo B v1)), (2, .ref 45), (3, .int (i32 v3))], [.int (i32 u0)], (khp (mO m [] []) c, N), 0, 0) _
  refine P_sto 28 [(4, .int (i32 u0)), (0, .ref (tbr v0)), (1, .ref (obo B v1)), (2, .ref 45), (3, .int (i32 v3))] rfl (fun _ => rfl) ?_
  refine P_ld 29 (.int (i32 v3)) rfl (fun _ => rfl) ?_
  refine P_ifF 48 32 rfl rfl rfl q3 rfl (fun h25 => ?_) (fun h25 => ?_)
  · skip
    refine P_ld 49 (.int (i32 1)) rfl (fun _ => rfl) ?_
    exact P_ro1 rfl (l32 1 rfl) hm
  · skip
    refine P_ld 34 (.int (i32 u0)) rfl (fun _ => rfl) ?_
    refine P_ifE 50 37 rfl rfl rfl r0 rfl (fun h26 => ?_) (fun h26 => ?_)
    · skip
      refine P_ld 38 (.ref (tbr v0)) rfl (fun _ => rfl) ?_
      refine P_ld 39 (.ref (obo B v1)) rfl (fun _ => rfl) ?_
      refine PK_goi 42 97 (m.2 97) rfl rfl (OKr_o hm rfl rfl q1) (obr_o hm rfl) rfl rfl ?_
      refine P_cp1 45 132 [.ref (tbr v0), .int (i32 ((m.2 97) v1))] [] rfl (inv_vt (args := [.int (i32 ((m.2 97) v1))]) (khp_t0 _ q0.1 q0.2) rfl rfl rfl) rfl (D_tb_lists w m c N D hm.1 v0 ((m.2 97) v1) q0 (kE_i (KCn_a hm.1 97) rfl _)) (fun y27 h28 => ?_)
      refine P_ifE 50 48 rfl rfl rfl h28 rfl (fun h30 => ?_) (fun h30 => ?_)
      · skip
        refine P_ld 49 (.int (i32 1)) rfl (fun _ => rfl) ?_
        exact P_ro1 rfl (l32 1 rfl) hm
      · skip
        refine P_lv (b := [(0, .ref (tbr v0)), (1, .ref (obo B v1)), (2, .ref 45), (3, .int (i32 v3)), (4, .int (i32 u0))]) rfl rfl ⟨rfl, rfl, rfl, rfl, rfl, trivial⟩ ?_
        exact dg_tb_serve_50 B w c N D bb v0 v1 u0 q0 q1 r0 m hm (jk [(3, v3)])
    · skip
      refine P_lv (b := [(0, .ref (tbr v0)), (1, .ref (obo B v1)), (2, .ref 45), (3, .int (i32 v3)), (4, .int (i32 u0))]) rfl rfl ⟨rfl, rfl, rfl, rfl, rfl, trivial⟩ ?_
      exact dg_tb_serve_50 B w c N D bb v0 v1 u0 q0 q1 r0 m hm (jk [(3, v3)])
def kf_tb_serve (v0 : Int) (v1 : Int) (m : mR) : Option (Int × mR) :=
  bnd (kf_tb_cutKeys_b103_b104 v0 v1 v1 m) fun y31 =>
  if (y31.2.2 91) v1 = 3 then
    kfl_tb_serve_26 v0 v1 y31.1 1 y31.2
  else
    kfl_tb_serve_26 v0 v1 y31.1 0 y31.2
theorem D_tb_serve (B : oB) (w : wX) (m : mR) (c : Nat → Option am_C) (N D : Nat) (hm : KCo B m) (v0 : Int) (v1 : Int) (q0 : Rt v0) (q1 : OKo B v1) : PC w D 187 [.ref (tbr v0), .ref (obo B v1), .ref 45] (khp m c, N) (QS (FO1 B c N) (kf_tb_serve v0 v1 m)) := by
  refine Pc_of (fun D bb => ?_) D
  unfold kf_tb_serve
  show PP bb w D pm_187 (0, [(0, .ref (tbr v0)), (1, .ref (obo B v1)), (2, .ref 45)], [], (khp (mO m [] []) c, N), 0, 0) _
  refine P_ld 1 (.ref (tbr v0)) rfl (fun _ => rfl) ?_
  refine P_ld 2 (.ref (obo B v1)) rfl (fun _ => rfl) ?_
  refine PK_gor 5 rfl rfl (OKr_o hm rfl rfl q1) (obr_o hm rfl) rfl ?_
  refine P_ld 6 (.ref (obo B v1)) rfl (fun _ => rfl) ?_
  refine PK_gor 9 rfl rfl (OKr_o hm rfl rfl q1) (obr_o hm rfl) rfl ?_
  refine P_co1 12 188 [.ref (tbr v0), .ref (obo B v1 + (3 + 1)), .ref (obo B v1 + (4 + 1))] [] rfl (inv_vt (args := [.ref (obo B v1 + (4 + 1)), .ref (obo B v1 + (3 + 1))]) (khp_t0 _ q0.1 q0.2) rfl rfl rfl) rfl (D_tb_cutKeys_b103_b104 B w m c N D hm v0 v1 v1 q0 q1 q1) (fun y31 h32 n33 => ?_)
  refine P_sto 13 [(3, .int (i32 y31.1)), (0, .ref (tbr v0)), (1, .ref (obo B v1)), (2, .ref 45)] rfl (fun _ => rfl) ?_
  refine P_ld 14 (.ref (obo B v1)) rfl (fun _ => rfl) ?_
  refine PK_goi 17 91 (y31.2.2 91) rfl rfl (OKr_o n33 rfl rfl q1) (obr_o n33 rfl) rfl rfl ?_
  refine P_ld 18 (.int (i32 3)) rfl (fun _ => rfl) ?_
  refine P_icE 25 21 rfl rfl rfl (kE_i (KCn_a n33.1 91) rfl _) (l32 3 rfl) rfl (fun h34 => ?_) (fun h34 => ?_)
  · skip
    refine P_ld 22 (.int (i32 1)) rfl (fun _ => rfl) ?_
    refine P_goto 26 rfl (fun _ => rfl) ?_
    refine P_lv (b := [(0, .ref (tbr v0)), (1, .ref (obo B v1)), (2, .ref 45), (3, .int (i32 y31.1))]) rfl rfl ⟨rfl, rfl, rfl, rfl, trivial⟩ ?_
    exact dg_tb_serve_26 B w c N D bb v0 v1 y31.1 1 q0 q1 h32 (l32 1 rfl) y31.2 n33 (jk [])
  · skip
    refine P_ld 26 (.int (i32 0)) rfl (fun _ => rfl) ?_
    refine P_lv (b := [(0, .ref (tbr v0)), (1, .ref (obo B v1)), (2, .ref 45), (3, .int (i32 y31.1))]) rfl rfl ⟨rfl, rfl, rfl, rfl, trivial⟩ ?_
    exact dg_tb_serve_26 B w c N D bb v0 v1 y31.1 0 q0 q1 h32 (l32 0 rfl) y31.2 n33 (jk [])
def cs_op_work_b71_71 (B : oB) (s : Int × mR) : Prop := R32 s.1 ∧ KCo B s.2
def cx_op_work_b71_71 (B : oB) : (mR) → Prop := (fun (e : mR) => KCo B e)
def hd_op_work_b71_71 (B : oB) (c : Nat → Option am_C) (N : Nat) (v0 : Int) (v2 : Int) (s : Int × mR) (j : Nat → Int) : ag_St af_T := (71, [(0, .ref (obo B v0)), (1, .ref 12), (2, .int (i32 v2)), (3, .ref 188), (4, .ref 59), (5, .int (i32 s.1)), (6, .int (i32 (j 6)))], [], (khp s.2 c, N), 0, 0)
def ex_op_work_b71_71 (B : oB) (c : Nat → Option am_C) (N : Nat) (v0 : Int) (v2 : Int) : (mR) → (Nat → Int) → ag_St af_T := (fun (e : mR) (j : Nat → Int) => ((156, [(0, .ref (obo B (j 0))), (1, .ref 12), (2, .int (i32 (j 2))), (3, .ref 188), (4, .ref 59), (5, .int (i32 (j 5))), (6, .int (i32 (j 6)))], [], (khp e c, N), 0, 0) : ag_St af_T))
def kfl_op_work_b71_150 (v0 : Int) (v2 : Int) (v5 : Int) (m : mR) : Option (Sum (Int × mR) (mR)) :=
  some (.inl (cut (v5 + 1), m))
theorem dg_op_work_b71_150 (B : oB) (w : wX) (c : Nat → Option am_C) (N D : Nat) (bb : Nat) (v0 : Int) (v2 : Int) (v5 : Int) (q0 : OKo B v0) (q2 : R32 v2) (q5 : R32 v5) (m : mR) (hm : KCo B m) (j : Nat → Int) (Q2 : Sum (Int × mR) (mR) → ag_Re af_T → Prop) (H1 : ∀ s j, cs_op_work_b71_71 B s → PP bb w D pm_186 (hd_op_work_b71_71 B c N v0 v2 s j) (Q2 (.inl s))) (H2 : ∀ x j, cx_op_work_b71_71 B x → PP bb w D pm_186 (ex_op_work_b71_71 B c N v0 v2 x j) (Q2 (.inr x))) : PP bb w D pm_186 (150, [(0, .ref (obo B v0)), (1, .ref 12), (2, .int (i32 v2)), (3, .ref 188), (4, .ref 59), (5, .int (i32 v5)), (6, .int (i32 (j 6)))], [], (khp m c, N), 0, 0) (QS Q2 (kfl_op_work_b71_150 v0 v2 v5 m)) := by
  unfold kfl_op_work_b71_150
  show PP bb w D pm_186 (150, [(0, .ref (obo B v0)), (1, .ref 12), (2, .int (i32 v2)), (3, .ref 188), (4, .ref 59), (5, .int (i32 v5)), (6, .int (i32 (j 6)))], [], (khp (mO m [] []) c, N), 0, 0) _
  refine P_inc 153 [(5, .int (i32 (cut (v5 + 1)))), (0, .ref (obo B v0)), (1, .ref 12), (2, .int (i32 v2)), (3, .ref 188), (4, .ref 59), (6, .int (i32 (j 6)))] rfl rfl (by decide) rfl rfl ?_
  refine P_goto 71 rfl (fun _ => rfl) ?_
  refine P_some ?_
  refine P_lv (b := [(0, .ref (obo B v0)), (1, .ref 12), (2, .int (i32 v2)), (3, .ref 188), (4, .ref 59), (5, .int (i32 (cut (v5 + 1)))), (6, .int (i32 (j 6)))]) rfl rfl ⟨rfl, rfl, rfl, rfl, rfl, rfl, rfl, trivial⟩ ?_
  exact H1 (cut (v5 + 1), m) (jk [(6, j 6)]) ⟨cut_r, hm⟩
def kfl_op_work_b71_135 (v0 : Int) (v2 : Int) (v5 : Int) (m : mR) : Option (Sum (Int × mR) (mR)) :=
  bnd (kf_op_doStep_b71 v0 v5 m) fun y2 =>
  kfl_op_work_b71_150 v0 v2 v5 (mO y2.2 [] [(102, upI (y2.2.2 102) (65536 * v0 + v5) y2.1)])
theorem dg_op_work_b71_135 (B : oB) (w : wX) (c : Nat → Option am_C) (N D : Nat) (bb : Nat) (v0 : Int) (v2 : Int) (v5 : Int) (q0 : OKo B v0) (q2 : R32 v2) (q5 : R32 v5) (m : mR) (hm : KCo B m) (j : Nat → Int) (Q2 : Sum (Int × mR) (mR) → ag_Re af_T → Prop) (H1 : ∀ s j, cs_op_work_b71_71 B s → PP bb w D pm_186 (hd_op_work_b71_71 B c N v0 v2 s j) (Q2 (.inl s))) (H2 : ∀ x j, cx_op_work_b71_71 B x → PP bb w D pm_186 (ex_op_work_b71_71 B c N v0 v2 x j) (Q2 (.inr x))) : PP bb w D pm_186 (135, [(0, .ref (obo B v0)), (1, .ref 12), (2, .int (i32 v2)), (3, .ref 188), (4, .ref 59), (5, .int (i32 v5)), (6, .int (i32 (j 6)))], [], (khp m c, N), 0, 0) (QS Q2 (kfl_op_work_b71_135 v0 v2 v5 m)) := by
  unfold kfl_op_work_b71_135
  show PP bb w D pm_186 (135, [(0, .ref (obo B v0)), (1, .ref 12), (2, .int (i32 v2)), (3, .ref 188), (4, .ref 59), (5, .int (i32 v5)), (6, .int (i32 (j 6)))], [], (khp (mO m [] []) c, N), 0, 0) _
  refine P_ld 136 (.ref (obo B v0)) rfl (fun _ => rfl) ?_
  refine PK_gor 139 rfl rfl (OKr_o hm rfl rfl q0) (obr_o hm rfl) rfl ?_
  refine P_ld 141 (.int (i32 v5)) rfl (fun _ => rfl) ?_
  refine P_ld 142 (.ref (obo B v0)) rfl (fun _ => rfl) ?_
  refine P_ld 143 (.ref 12) rfl (fun _ => rfl) ?_
  refine P_ld 145 (.int (i32 v5)) rfl (fun _ => rfl) ?_
  refine P_ld 146 (.ref 188) rfl (fun _ => rfl) ?_
  refine P_co1 149 194 [.ref (obo B v0), .ref 12, .int (i32 v5), .ref 188] [.int (i32 v5), .ref (obo B v0 + (2 + 1))] rfl (inv_vt (args := [.ref 188, .int (i32 v5), .ref 12]) (khp_oo hm rfl rfl q0) rfl rfl rfl) rfl (D_op_doStep_b71 B w m c N D hm v0 v5 q0 q5) (fun y2 h3 n4 => ?_)
  refine PK_iasto2 (a' := [(102, upI (y2.2.2 102) (65536 * v0 + v5) y2.1)]) 150 2 (y2.2.2 102) rfl rfl rfl n4 rfl rfl q0 q5 rfl rfl ?_
  exact dg_op_work_b71_150 B w c N D bb v0 v2 v5 q0 q2 q5 (mO y2.2 [] [(102, upI (y2.2.2 102) (65536 * v0 + v5) y2.1)]) (KCo_mO n4 rfl rfl (KC6 n4 rfl) trivial ⟨(kE_ui (KCn_a n4.1 102) rfl h3), trivial⟩) (jk [(6, j 6)]) Q2 H1 H2
def kfb_op_work_b71_71 (v0 : Int) (v2 : Int) (s : Int × mR) : Option (Sum (Int × mR) (mR)) :=
  if s.2.1 225 ≤ s.1 then
    some (.inr s.2)
  else
    if (s.2.2 98) v0 = 2 then
      some (.inr s.2)
    else
      if (s.2.2 59) s.1 = v2 then
        if (s.2.2 53) s.1 = (-1) then
          kfl_op_work_b71_135 v0 v2 s.1 s.2
        else
          if (s.2.2 102) (65536 * v0 + ((s.2.2 53) s.1)) = (s.2.2 54) s.1 then
            kfl_op_work_b71_135 v0 v2 s.1 s.2
          else
            kfl_op_work_b71_150 v0 v2 s.1 s.2
      else
        kfl_op_work_b71_150 v0 v2 s.1 s.2
theorem dh_op_work_b71_71 (B : oB) (w : wX) (c : Nat → Option am_C) (N D : Nat) (v0 : Int) (v2 : Int) (q0 : OKo B v0) (q2 : R32 v2) (bb : Nat) (Q2 : Sum (Int × mR) (mR) → ag_Re af_T → Prop) (H1 : ∀ s j, cs_op_work_b71_71 B s → PP bb w D pm_186 (hd_op_work_b71_71 B c N v0 v2 s j) (Q2 (.inl s))) (H2 : ∀ x j, cx_op_work_b71_71 B x → PP bb w D pm_186 (ex_op_work_b71_71 B c N v0 v2 x j) (Q2 (.inr x))) (s : Int × mR) (j : Nat → Int) (hs : cs_op_work_b71_71 B s) : PP (bb + 1) w D pm_186 (hd_op_work_b71_71 B c N v0 v2 s j) (QS Q2 (kfb_op_work_b71_71 v0 v2 s)) := by
  obtain ⟨g5, gm⟩ := hs
  unfold kfb_op_work_b71_71
  show PP (bb + 1) w D pm_186 (71, [(0, .ref (obo B v0)), (1, .ref 12), (2, .int (i32 v2)), (3, .ref 188), (4, .ref 59), (5, .int (i32 s.1)), (6, .int (i32 (j 6)))], [], (khp (mO s.2 [] []) c, N), 0, 0) _
  refine P1_ld 73 (.int (i32 s.1)) rfl (fun _ => rfl) ?_
  refine P_ld 75 (.ref 59) rfl (fun _ => rfl) ?_
  refine PK_gf 78 (.int (i32 (s.2.1 225))) rfl rfl kd_59 rfl rfl rfl ?_
  refine P_icF 156 81 rfl rfl rfl g5 (KCn_i gm.1 225 rfl) rfl (fun h6 => ?_) (fun h6 => ?_)
  · skip
    refine P_some ?_
    exact H2 s.2 (jk [(0, v0), (2, v2), (5, s.1), (6, j 6)]) gm
  · skip
    refine P_ld 82 (.ref (obo B v0)) rfl (fun _ => rfl) ?_
    refine PK_goi 85 98 (s.2.2 98) rfl rfl (OKr_o gm rfl rfl q0) (obr_o gm rfl) rfl rfl ?_
    refine P_ld 86 (.int (i32 2)) rfl (fun _ => rfl) ?_
    refine P_icF 156 89 rfl rfl rfl (kE_i (KCn_a gm.1 98) rfl _) (l32 2 rfl) rfl (fun h7 => ?_) (fun h7 => ?_)
    · skip
      refine P_some ?_
      exact H2 s.2 (jk [(0, v0), (2, v2), (5, s.1), (6, j 6)]) gm
    · skip
      refine P_ld 91 (.ref 59) rfl (fun _ => rfl) ?_
      refine PK_gf 94 (.ref 61) rfl rfl kd_59 rfl rfl rfl ?_
      refine P_ld 96 (.int (i32 s.1)) rfl (fun _ => rfl) ?_
      refine PK_iald2 97 53 (s.2.2 53) rfl rfl rfl g5 rfl ?_
      refine P_sto 99 [(6, .int (i32 ((s.2.2 53) s.1))), (0, .ref (obo B v0)), (1, .ref 12), (2, .int (i32 v2)), (3, .ref 188), (4, .ref 59), (5, .int (i32 s.1))] rfl (fun _ => rfl) ?_
      refine P_ld 101 (.ref 59) rfl (fun _ => rfl) ?_
      refine PK_gf 104 (.ref 67) rfl rfl kd_59 rfl rfl rfl ?_
      refine P_ld 106 (.int (i32 s.1)) rfl (fun _ => rfl) ?_
      refine PK_iald2 107 59 (s.2.2 59) rfl rfl rfl g5 rfl ?_
      refine P_ld 108 (.int (i32 v2)) rfl (fun _ => rfl) ?_
      refine P_icE 150 111 rfl rfl rfl (kE_i (KCn_a gm.1 59) rfl _) q2 rfl (fun h8 => ?_) (fun h8 => ?_)
      · skip
        refine P_ld 113 (.int (i32 ((s.2.2 53) s.1))) rfl (fun _ => rfl) ?_
        refine P_ld 114 (.int (i32 (-1))) rfl (fun _ => rfl) ?_
        refine P_icF 135 117 rfl rfl rfl (kE_i (KCn_a gm.1 53) rfl _) (l32 (-1) rfl) rfl (fun h9 => ?_) (fun h9 => ?_)
        · skip
          refine P_lv (b := [(0, .ref (obo B v0)), (1, .ref 12), (2, .int (i32 v2)), (3, .ref 188), (4, .ref 59), (5, .int (i32 s.1)), (6, .int (i32 ((s.2.2 53) s.1)))]) rfl rfl ⟨rfl, rfl, rfl, rfl, rfl, rfl, rfl, trivial⟩ ?_
          exact dg_op_work_b71_135 B w c N D bb v0 v2 s.1 q0 q2 g5 s.2 gm (jk [(6, (s.2.2 53) s.1)]) Q2 H1 H2
        · skip
          refine P_ld 118 (.ref (obo B v0)) rfl (fun _ => rfl) ?_
          refine PK_gor 121 rfl rfl (OKr_o gm rfl rfl q0) (obr_o gm rfl) rfl ?_
          refine P_ld 123 (.int (i32 ((s.2.2 53) s.1))) rfl (fun _ => rfl) ?_
          refine PK_ialo2 124 2 (s.2.2 102) rfl rfl rfl gm rfl rfl q0 (kE_i (KCn_a gm.1 53) rfl _) rfl ?_
          refine P_ld 126 (.ref 59) rfl (fun _ => rfl) ?_
          refine PK_gf 129 (.ref 62) rfl rfl kd_59 rfl rfl rfl ?_
          refine P_ld 131 (.int (i32 s.1)) rfl (fun _ => rfl) ?_
          refine PK_iald2 132 54 (s.2.2 54) rfl rfl rfl g5 rfl ?_
          refine P_icE 150 135 rfl rfl rfl (kE_i (KCn_a gm.1 102) rfl _) (kE_i (KCn_a gm.1 54) rfl _) rfl (fun h10 => ?_) (fun h10 => ?_)
          · skip
            refine P_lv (b := [(0, .ref (obo B v0)), (1, .ref 12), (2, .int (i32 v2)), (3, .ref 188), (4, .ref 59), (5, .int (i32 s.1)), (6, .int (i32 ((s.2.2 53) s.1)))]) rfl rfl ⟨rfl, rfl, rfl, rfl, rfl, rfl, rfl, trivial⟩ ?_
            exact dg_op_work_b71_135 B w c N D bb v0 v2 s.1 q0 q2 g5 s.2 gm (jk [(6, (s.2.2 53) s.1)]) Q2 H1 H2
          · skip
            refine P_lv (b := [(0, .ref (obo B v0)), (1, .ref 12), (2, .int (i32 v2)), (3, .ref 188), (4, .ref 59), (5, .int (i32 s.1)), (6, .int (i32 ((s.2.2 53) s.1)))]) rfl rfl ⟨rfl, rfl, rfl, rfl, rfl, rfl, rfl, trivial⟩ ?_
            exact dg_op_work_b71_150 B w c N D bb v0 v2 s.1 q0 q2 g5 s.2 gm (jk [(6, (s.2.2 53) s.1)]) Q2 H1 H2
      · skip
        refine P_lv (b := [(0, .ref (obo B v0)), (1, .ref 12), (2, .int (i32 v2)), (3, .ref 188), (4, .ref 59), (5, .int (i32 s.1)), (6, .int (i32 ((s.2.2 53) s.1)))]) rfl rfl ⟨rfl, rfl, rfl, rfl, rfl, rfl, rfl, trivial⟩ ?_
        exact dg_op_work_b71_150 B w c N D bb v0 v2 s.1 q0 q2 g5 s.2 gm (jk [(6, (s.2.2 53) s.1)]) Q2 H1 H2
def kfl_op_work_b71_43 (v0 : Int) (u0 : Int) (u1 : Int) (m : mR) : Option (Int × mR) :=
  if u0 = u1 then
    bnd (kf_tb_serve ((m.2 95) v0) v0 m) fun y13 =>
    some (0, (mO y13.2 [] [(98, upI (y13.2.2 98) v0 y13.1)]))
  else
    some (0, m)
theorem dg_op_work_b71_43 (B : oB) (w : wX) (c : Nat → Option am_C) (N D : Nat) (bb : Nat) (v0 : Int) (u0 : Int) (u1 : Int) (q0 : OKo B v0) (r0 : R32 u0) (r1 : R32 u1) (m : mR) (hm : KCo B m) (j : Nat → Int) : PP bb w D pm_186 (43, [(0, .ref (obo B v0)), (1, .ref 12), (2, .int (i32 (j 2))), (3, .ref 188), (4, .ref 59), (5, .int (i32 (j 5)))], [.int (i32 u1), .int (i32 u0)], (khp m c, N), 0, 0) (QS (FO0 B c N) (kfl_op_work_b71_43 v0 u0 u1 m)) := by
  unfold kfl_op_work_b71_43
  show PP bb w D pm_186 (43, [(0, .ref (obo B v0)), (1, .ref 12), (2, .int (i32 (j 2))), (3, .ref 188), (4, .ref 59), (5, .int (i32 (j 5)))], [.int (i32 u1), .int (i32 u0)], (khp (mO m [] []) c, N), 0, 0) _
  refine P_icE 67 46 rfl rfl rfl r0 r1 rfl (fun h11 => ?_) (fun h11 => ?_)
  · skip
    refine P_ld 47 (.ref (obo B v0)) rfl (fun _ => rfl) ?_
    refine P_ld 48 (.ref 12) rfl (fun _ => rfl) ?_
    refine PK_gf 51 (.ref 21) rfl rfl kd_12 rfl rfl rfl ?_
    refine P_ld 52 (.ref (obo B v0)) rfl (fun _ => rfl) ?_
    refine PK_goi 55 95 (m.2 95) rfl rfl (OKr_o hm rfl rfl q0) (obr_o hm rfl) rfl rfl ?_
    refine PK_aatb2 56 rfl (kE_i (KCn_a hm.1 95) rfl _) rfl (fun t12 => ?_)
    refine P_ld 57 (.ref (obo B v0)) rfl (fun _ => rfl) ?_
    refine P_ld 58 (.ref 12) rfl (fun _ => rfl) ?_
    refine PK_gf 61 (.ref 45) rfl rfl kd_12 rfl rfl rfl ?_
    refine P_co1 64 187 [.ref (tbr ((m.2 95) v0)), .ref (obo B v0), .ref 45] [.ref (obo B v0)] rfl (inv_vt (args := [.ref 45, .ref (obo B v0)]) (khp_t0 _ t12.1 t12.2) rfl rfl rfl) rfl (D_tb_serve B w m c N D hm ((m.2 95) v0) v0 t12 q0) (fun y13 h14 n15 => ?_)
    refine PK_poi (a' := [(98, upI (y13.2.2 98) v0 y13.1)]) 67 98 (y13.2.2 98) rfl rfl rfl (OKr_o n15 rfl rfl q0) (OWu_o n15 rfl rfl) (obr_o n15 rfl) rfl rfl rfl ?_
    exact P_ro0 rfl rfl (KCo_mO n15 rfl rfl (KC6 n15 rfl) trivial ⟨(kE_ui (KCn_a n15.1 98) rfl h14), trivial⟩)
  · skip
    exact P_ro0 rfl rfl hm
def kf_op_work_b71 (v0 : Int) (v2 : Int) (m : mR) : Option (Int × mR) :=
  if (m.2 91) v0 = 0 then
    bnd (whl (kfb_op_work_b71_71 v0 v2) (0, m)) (fun e17 : mR =>
      some (0, e17))
  else
    bnd (kf_sp_applying ((m.2 95) v0) m) fun y20 =>
    if y20 = (-1) then
      kfl_op_work_b71_43 v0 v2 0 m
    else
      kfl_op_work_b71_43 v0 v2 ((m.2 59) y20) m
theorem D_op_work_b71 (B : oB) (w : wX) (m : mR) (c : Nat → Option am_C) (N D : Nat) (hm : KCo B m) (v0 : Int) (v2 : Int) (q0 : OKo B v0) (q2 : R32 v2) : PC w D 186 [.ref (obo B v0), .ref 12, .int (i32 v2), .ref 188] (khp m c, N) (QS (FO0 B c N) (kf_op_work_b71 v0 v2 m)) := by
  refine Pc_of (fun D bb => ?_) D
  unfold kf_op_work_b71
  show PP bb w D pm_186 (0, [(0, .ref (obo B v0)), (1, .ref 12), (2, .int (i32 v2)), (3, .ref 188)], [], (khp (mO m [] []) c, N), 0, 0) _
  refine P_ld 1 (.ref 12) rfl (fun _ => rfl) ?_
  refine PK_gf 4 (.ref 59) rfl rfl kd_12 rfl rfl rfl ?_
  refine P_sto 6 [(4, .ref 59), (0, .ref (obo B v0)), (1, .ref 12), (2, .int (i32 v2)), (3, .ref 188)] rfl (fun _ => rfl) ?_
  refine P_ld 7 (.ref (obo B v0)) rfl (fun _ => rfl) ?_
  refine PK_goi 10 91 (m.2 91) rfl rfl (OKr_o hm rfl rfl q0) (obr_o hm rfl) rfl rfl ?_
  refine P_ifF 68 13 rfl rfl rfl (kE_i (KCn_a hm.1 91) rfl _) rfl (fun h16 => ?_) (fun h16 => ?_)
  · skip
    refine P_ld 69 (.int (i32 0)) rfl (fun _ => rfl) ?_
    refine P_sto 71 [(5, .int (i32 0)), (4, .ref 59), (0, .ref (obo B v0)), (1, .ref 12), (2, .int (i32 v2)), (3, .ref 188)] rfl (fun _ => rfl) ?_
    refine P_lv (b := [(0, .ref (obo B v0)), (1, .ref 12), (2, .int (i32 v2)), (3, .ref 188), (4, .ref 59), (5, .int (i32 0)), (6, .int (i32 0))]) rfl rfl ⟨rfl, rfl, rfl, rfl, rfl, rfl, trivial⟩ ?_
    refine P_bnd ?_
    refine P_whl (fun bb Q2 H1 H2 s9 j9 hs9 => dh_op_work_b71_71 B w c N D v0 v2 q0 q2 bb Q2 H1 H2 s9 j9 hs9) bb (fun e17 j q18 => ?_) (0, m) (jk []) ⟨(l32 0 rfl), hm⟩
    have q19 := q18
    show PP bb w D pm_186 (156, [(0, .ref (obo B (j 0))), (1, .ref 12), (2, .int (i32 (j 2))), (3, .ref 188), (4, .ref 59), (5, .int (i32 (j 5))), (6, .int (i32 (j 6)))], [], (khp (mO e17 [] []) c, N), 0, 0) (QS _ (some (0, e17)))
    exact P_ro0 rfl rfl q19
  · skip
    refine P_ld 15 (.ref 59) rfl (fun _ => rfl) ?_
    refine P_ld 16 (.ref (obo B v0)) rfl (fun _ => rfl) ?_
    refine PK_goi 19 95 (m.2 95) rfl rfl (OKr_o hm rfl rfl q0) (obr_o hm rfl) rfl rfl ?_
    refine P_cp1 22 142 [.ref 59, .int (i32 ((m.2 95) v0))] [] rfl (fun _ => rfl) rfl (D_sp_applying w m c N D hm.1 ((m.2 95) v0) (kE_i (KCn_a hm.1 95) rfl _)) (fun y20 h21 => ?_)
    refine P_sto 24 [(5, .int (i32 y20)), (4, .ref 59), (0, .ref (obo B v0)), (1, .ref 12), (2, .int (i32 v2)), (3, .ref 188)] rfl (fun _ => rfl) ?_
    refine P_ld 25 (.int (i32 v2)) rfl (fun _ => rfl) ?_
    refine P_ld 27 (.int (i32 y20)) rfl (fun _ => rfl) ?_
    refine P_ld 28 (.int (i32 (-1))) rfl (fun _ => rfl) ?_
    refine P_icE 35 31 rfl rfl rfl h21 (l32 (-1) rfl) rfl (fun h23 => ?_) (fun h23 => ?_)
    · skip
      refine P_ld 32 (.int (i32 0)) rfl (fun _ => rfl) ?_
      refine P_goto 43 rfl (fun _ => rfl) ?_
      refine P_lv (b := [(0, .ref (obo B v0)), (1, .ref 12), (2, .int (i32 v2)), (3, .ref 188), (4, .ref 59), (5, .int (i32 y20))]) rfl rfl ⟨rfl, rfl, rfl, rfl, rfl, rfl, trivial⟩ ?_
      exact dg_op_work_b71_43 B w c N D bb v0 v2 0 q0 q2 (l32 0 rfl) m hm (jk [(2, v2), (5, y20)])
    · skip
      refine P_ld 37 (.ref 59) rfl (fun _ => rfl) ?_
      refine PK_gf 40 (.ref 67) rfl rfl kd_59 rfl rfl rfl ?_
      refine P_ld 42 (.int (i32 y20)) rfl (fun _ => rfl) ?_
      refine PK_iald2 43 59 (m.2 59) rfl rfl rfl h21 rfl ?_
      refine P_lv (b := [(0, .ref (obo B v0)), (1, .ref 12), (2, .int (i32 v2)), (3, .ref 188), (4, .ref 59), (5, .int (i32 y20))]) rfl rfl ⟨rfl, rfl, rfl, rfl, rfl, rfl, trivial⟩ ?_
      exact dg_op_work_b71_43 B w c N D bb v0 v2 ((m.2 59) y20) q0 q2 (kE_i (KCn_a hm.1 59) rfl _) m hm (jk [(2, v2), (5, y20)])
def cs_Arrays_fill1_b101_6 (B : oB) (s : Int × mR) : Prop := R32 s.1 ∧ KCo B s.2
def cx_Arrays_fill1_b101_6 (B : oB) : (mR) → Prop := (fun (e : mR) => KCo B e)
def hd_Arrays_fill1_b101_6 (B : oB) (c : Nat → Option am_C) (N : Nat) (v0 : Int) (v1 : Int) (v4 : Int) (s : Int × mR) (j : Nat → Int) : ag_St af_T := (6, [(0, .ref (obo B v0 + (1 + 1))), (1, .long (i64 v1)), (3, .int (i32 s.1)), (4, .int (i32 v4))], [], (khp s.2 c, N), 0, 0)
def ex_Arrays_fill1_b101_6 (B : oB) (c : Nat → Option am_C) (N : Nat) (v0 : Int) (v1 : Int) (v4 : Int) : (mR) → (Nat → Int) → ag_St af_T := (fun (e : mR) (j : Nat → Int) => ((22, [(0, .ref (obo B (j 0) + (1 + 1))), (1, .long (i64 (j 1))), (3, .int (i32 (j 3))), (4, .int (i32 (j 4)))], [], (khp e c, N), 0, 0) : ag_St af_T))
def kfb_Arrays_fill1_b101_6 (v0 : Int) (v1 : Int) (v4 : Int) (s : Int × mR) : Option (Sum (Int × mR) (mR)) :=
  if v4 ≤ s.1 then
    some (.inr s.2)
  else
    some (.inl (cut (s.1 + 1), (mO s.2 [] [(101, upI (s.2.2 101) (65536 * v0 + s.1) v1)])))
theorem dh_Arrays_fill1_b101_6 (B : oB) (w : wX) (c : Nat → Option am_C) (N D : Nat) (v0 : Int) (v1 : Int) (v4 : Int) (q0 : OKo B v0) (q1 : R64 v1) (q4 : R32 v4) (bb : Nat) (Q2 : Sum (Int × mR) (mR) → ag_Re af_T → Prop) (H1 : ∀ s j, cs_Arrays_fill1_b101_6 B s → PP bb w D pm_46 (hd_Arrays_fill1_b101_6 B c N v0 v1 v4 s j) (Q2 (.inl s))) (H2 : ∀ x j, cx_Arrays_fill1_b101_6 B x → PP bb w D pm_46 (ex_Arrays_fill1_b101_6 B c N v0 v1 v4 x j) (Q2 (.inr x))) (s : Int × mR) (j : Nat → Int) (hs : cs_Arrays_fill1_b101_6 B s) : PP (bb + 1) w D pm_46 (hd_Arrays_fill1_b101_6 B c N v0 v1 v4 s j) (QS Q2 (kfb_Arrays_fill1_b101_6 v0 v1 v4 s)) := by
  obtain ⟨g3, gm⟩ := hs
  unfold kfb_Arrays_fill1_b101_6
  show PP (bb + 1) w D pm_46 (6, [(0, .ref (obo B v0 + (1 + 1))), (1, .long (i64 v1)), (3, .int (i32 s.1)), (4, .int (i32 v4))], [], (khp (mO s.2 [] []) c, N), 0, 0) _
  refine P1_ld 7 (.int (i32 s.1)) rfl (fun _ => rfl) ?_
  refine P_ld 9 (.int (i32 v4)) rfl (fun _ => rfl) ?_
  refine P_icF 22 12 rfl rfl rfl g3 q4 rfl (fun h3 => ?_) (fun h3 => ?_)
  · skip
    refine P_some ?_
    exact H2 s.2 (jk [(0, v0), (1, v1), (3, s.1), (4, v4)]) gm
  · skip
    refine P_ld 13 (.ref (obo B v0 + (1 + 1))) rfl (fun _ => rfl) ?_
    refine P_ld 14 (.int (i32 s.1)) rfl (fun _ => rfl) ?_
    refine P_ld 15 (.long (i64 v1)) rfl (fun _ => rfl) ?_
    refine PK_lasto2 (a' := [(101, upI (s.2.2 101) (65536 * v0 + s.1) v1)]) 16 1 (s.2.2 101) rfl rfl rfl gm rfl rfl q0 g3 rfl rfl ?_
    refine P_inc 19 [(3, .int (i32 (cut (s.1 + 1)))), (0, .ref (obo B v0 + (1 + 1))), (1, .long (i64 v1)), (4, .int (i32 v4))] rfl rfl (by decide) rfl rfl ?_
    refine P_goto 6 rfl (fun _ => rfl) ?_
    refine P_some ?_
    refine P_lv (b := [(0, .ref (obo B v0 + (1 + 1))), (1, .long (i64 v1)), (3, .int (i32 (cut (s.1 + 1)))), (4, .int (i32 v4))]) rfl rfl ⟨rfl, rfl, rfl, rfl, trivial⟩ ?_
    exact H1 (cut (s.1 + 1), (mO s.2 [] [(101, upI (s.2.2 101) (65536 * v0 + s.1) v1)])) (jk []) ⟨cut_r, (KCo_mO gm rfl rfl (KC6 gm rfl) trivial ⟨(kE_ul (KCn_a gm.1 101) rfl q1), trivial⟩)⟩
def kf_Arrays_fill1_b101 (v0 : Int) (v1 : Int) (m : mR) : Option (Int × mR) :=
  bnd (whl (kfb_Arrays_fill1_b101_6 v0 v1 221) (0, m)) (fun e4 : mR =>
    some (0, e4))
theorem D_Arrays_fill1_b101 (B : oB) (w : wX) (m : mR) (c : Nat → Option am_C) (N D : Nat) (hm : KCo B m) (v0 : Int) (v1 : Int) (q0 : OKo B v0) (q1 : R64 v1) : PC w D 46 [.ref (obo B v0 + (1 + 1)), .long (i64 v1)] (khp m c, N) (QS (FO0 B c N) (kf_Arrays_fill1_b101 v0 v1 m)) := by
  refine Pc_of (fun D bb => ?_) D
  unfold kf_Arrays_fill1_b101
  show PP bb w D pm_46 (0, [(0, .ref (obo B v0 + (1 + 1))), (1, .long (i64 v1))], [], (khp (mO m [] []) c, N), 0, 0) _
  refine P_ld 1 (.int (i32 0)) rfl (fun _ => rfl) ?_
  refine P_sto 2 [(3, .int (i32 0)), (0, .ref (obo B v0 + (1 + 1))), (1, .long (i64 v1))] rfl (fun _ => rfl) ?_
  refine P_ld 3 (.ref (obo B v0 + (1 + 1))) rfl (fun _ => rfl) ?_
  refine PK_aleno 4 1 (L := 221) rfl rfl (OKr_o hm rfl rfl q0) (obr_o hm rfl) rfl rfl ?_
  refine P_sto 6 [(4, .int (i32 221)), (3, .int (i32 0)), (0, .ref (obo B v0 + (1 + 1))), (1, .long (i64 v1))] rfl (fun _ => rfl) ?_
  refine P_lv (b := [(0, .ref (obo B v0 + (1 + 1))), (1, .long (i64 v1)), (3, .int (i32 0)), (4, .int (i32 221))]) rfl rfl ⟨rfl, rfl, rfl, rfl, trivial⟩ ?_
  refine P_bnd ?_
  refine P_whl (fun bb Q2 H1 H2 s9 j9 hs9 => dh_Arrays_fill1_b101_6 B w c N D v0 v1 221 q0 q1 (l32 221 rfl) bb Q2 H1 H2 s9 j9 hs9) bb (fun e4 j q5 => ?_) (0, m) (jk []) ⟨(l32 0 rfl), hm⟩
  have q6 := q5
  show PP bb w D pm_46 (22, [(0, .ref (obo B (j 0) + (1 + 1))), (1, .long (i64 (j 1))), (3, .int (i32 (j 3))), (4, .int (i32 (j 4)))], [], (khp (mO e4 [] []) c, N), 0, 0) (QS _ (some (0, e4)))
  exact P_ro0 rfl rfl q6
end X55DF
