noncomputable section X55DB
def cs_nd_valueOf_b101_b105_3 (B : oB) (s : Int × mR) : Prop := R32 s.1 ∧ KCo B s.2
def cx_nd_valueOf_b101_b105_3 (B : oB) : (mR) → Prop := (fun (e : mR) => KCo B e)
def hd_nd_valueOf_b101_b105_3 (B : oB) (c : Nat → Option am_C) (N : Nat) (v2 : Int) (v3 : Int) (v4 : Int) (s : Int × mR) (j : Nat → Int) : ag_St af_T := (3, [(0, .ref 22), (1, .int (i32 (j 1))), (2, .int (i32 v2)), (3, .ref (obo B v3 + (1 + 1))), (4, .ref (obo B v4 + (5 + 1))), (5, .int (i32 s.1)), (6, .long (i64 (j 6)))], [], (khp s.2 c, N), 0, 0)
def ex_nd_valueOf_b101_b105_3 (B : oB) (c : Nat → Option am_C) (N : Nat) (v2 : Int) (v3 : Int) (v4 : Int) : (mR) → (Nat → Int) → ag_St af_T := (fun (e : mR) (j : Nat → Int) => ((304, [(0, .ref 22), (1, .int (i32 (j 1))), (2, .int (i32 v2)), (3, .ref (obo B (j 3) + (1 + 1))), (4, .ref (obo B (j 4) + (5 + 1))), (5, .int (i32 (j 5))), (6, .long (i64 (j 6)))], [], (khp e c, N), 0, 0) : ag_St af_T))
def kfl_nd_valueOf_b101_b105_304 (v2 : Int) (m : mR) : Option (Int × mR) :=
  some ((m.2 25) v2, m)
theorem dg_nd_valueOf_b101_b105_304 (B : oB) (w : wX) (c : Nat → Option am_C) (N D : Nat) (bb : Nat) (v2 : Int) (q2 : R32 v2) (m : mR) (hm : KCo B m) (j : Nat → Int) : PP bb w D pm_183 (304, [(0, .ref 22), (1, .int (i32 (j 1))), (2, .int (i32 v2)), (3, .ref (obo B (j 3) + (1 + 1))), (4, .ref (obo B (j 4) + (5 + 1))), (5, .int (i32 (j 5))), (6, .long (i64 (j 6)))], [], (khp m c, N), 0, 0) (QS (FO2 B c N) (kfl_nd_valueOf_b101_b105_304 v2 m)) := by
  unfold kfl_nd_valueOf_b101_b105_304
  show PP bb w D pm_183 (304, [(0, .ref 22), (1, .int (i32 (j 1))), (2, .int (i32 v2)), (3, .ref (obo B (j 3) + (1 + 1))), (4, .ref (obo B (j 4) + (5 + 1))), (5, .int (i32 (j 5))), (6, .long (i64 (j 6)))], [], (khp (mO m [] []) c, N), 0, 0) _
  refine P_ld 305 (.ref 22) rfl (fun _ => rfl) ?_
  refine PK_gf 308 (.ref 30) rfl rfl kd_22 rfl rfl rfl ?_
  refine P_ld 309 (.int (i32 v2)) rfl (fun _ => rfl) ?_
  refine PK_lald2 310 25 (m.2 25) rfl rfl rfl q2 rfl ?_
  exact P_ro2 rfl rfl (kE_l (KCn_a hm.1 25) rfl _) hm
def kfl_nd_valueOf_b101_b105_278 (v2 : Int) (v3 : Int) (v4 : Int) (v5 : Int) (v6 : Int) (m : mR) : Option (Sum (Int × mR) (mR)) :=
  bnd (kf_pw_ones ((m.2 22) v5) m) fun y2 =>
  some (.inl (cut (v5 + 1), (mO m [] [(25, upI (m.2 25) v5 (and64 v6 y2))])))
theorem dg_nd_valueOf_b101_b105_278 (B : oB) (w : wX) (c : Nat → Option am_C) (N D : Nat) (bb : Nat) (v2 : Int) (v3 : Int) (v4 : Int) (v5 : Int) (v6 : Int) (q2 : R32 v2) (q3 : OKo B v3) (q4 : OKo B v4) (q5 : R32 v5) (q6 : R64 v6) (m : mR) (hm : KCo B m) (j : Nat → Int) (Q2 : Sum (Int × mR) (mR) → ag_Re af_T → Prop) (H1 : ∀ s j, cs_nd_valueOf_b101_b105_3 B s → PP bb w D pm_183 (hd_nd_valueOf_b101_b105_3 B c N v2 v3 v4 s j) (Q2 (.inl s))) (H2 : ∀ x j, cx_nd_valueOf_b101_b105_3 B x → PP bb w D pm_183 (ex_nd_valueOf_b101_b105_3 B c N v2 v3 v4 x j) (Q2 (.inr x))) : PP bb w D pm_183 (278, [(0, .ref 22), (1, .int (i32 (j 1))), (2, .int (i32 v2)), (3, .ref (obo B v3 + (1 + 1))), (4, .ref (obo B v4 + (5 + 1))), (5, .int (i32 v5)), (6, .long (i64 v6))], [], (khp m c, N), 0, 0) (QS Q2 (kfl_nd_valueOf_b101_b105_278 v2 v3 v4 v5 v6 m)) := by
  unfold kfl_nd_valueOf_b101_b105_278
  show PP bb w D pm_183 (278, [(0, .ref 22), (1, .int (i32 (j 1))), (2, .int (i32 v2)), (3, .ref (obo B v3 + (1 + 1))), (4, .ref (obo B v4 + (5 + 1))), (5, .int (i32 v5)), (6, .long (i64 v6))], [], (khp (mO m [] []) c, N), 0, 0) _
  refine P_ld 279 (.ref 22) rfl (fun _ => rfl) ?_
  refine PK_gf 282 (.ref 30) rfl rfl kd_22 rfl rfl rfl ?_
  refine P_ld 284 (.int (i32 v5)) rfl (fun _ => rfl) ?_
  refine P_ld 286 (.long (i64 v6)) rfl (fun _ => rfl) ?_
  refine P_ld 287 (.ref 22) rfl (fun _ => rfl) ?_
  refine PK_gf 290 (.ref 27) rfl rfl kd_22 rfl rfl rfl ?_
  refine P_ld 292 (.int (i32 v5)) rfl (fun _ => rfl) ?_
  refine PK_iald2 293 22 (m.2 22) rfl rfl rfl q5 rfl ?_
  refine P_cp2 296 116 [.int (i32 ((m.2 22) v5))] [.long (i64 v6), .int (i32 v5), .ref 30] rfl (fun _ => rfl) rfl (D_pw_ones w m c N D hm.1 ((m.2 22) v5) (kE_i (KCn_a hm.1 22) rfl _)) (fun y2 h3 => ?_)
  refine P_opl 297 (and64 v6 y2) _ rfl (fun _ => rfl) (Int64.ofInt_toInt _).symm ?_
  refine PK_last2 (a' := [(25, upI (m.2 25) v5 (and64 v6 y2))]) 298 25 (m.2 25) rfl rfl rfl q5 rfl rfl ?_
  refine P_inc 301 [(5, .int (i32 (cut (v5 + 1)))), (0, .ref 22), (1, .int (i32 (j 1))), (2, .int (i32 v2)), (3, .ref (obo B v3 + (1 + 1))), (4, .ref (obo B v4 + (5 + 1))), (6, .long (i64 v6))] rfl rfl (by decide) rfl rfl ?_
  refine P_goto 3 rfl (fun _ => rfl) ?_
  refine P_some ?_
  refine P_lv (b := [(0, .ref 22), (1, .int (i32 (j 1))), (2, .int (i32 v2)), (3, .ref (obo B v3 + (1 + 1))), (4, .ref (obo B v4 + (5 + 1))), (5, .int (i32 (cut (v5 + 1)))), (6, .long (i64 v6))]) rfl rfl ⟨rfl, rfl, rfl, rfl, rfl, rfl, rfl, trivial⟩ ?_
  exact H1 (cut (v5 + 1), (mO m [] [(25, upI (m.2 25) v5 (and64 v6 y2))])) (jk [(1, j 1), (6, v6)]) ⟨cut_r, (KCo_mO hm rfl rfl (KC6 hm rfl) trivial ⟨(kE_ul (KCn_a hm.1 25) rfl t64_r), trivial⟩)⟩
def kfl_nd_valueOf_b101_b105_186 (v2 : Int) (v3 : Int) (v4 : Int) (v5 : Int) (u0 : Int) (m : mR) : Option (Sum (Int × mR) (mR)) :=
  kfl_nd_valueOf_b101_b105_278 v2 v3 v4 v5 u0 m
theorem dg_nd_valueOf_b101_b105_186 (B : oB) (w : wX) (c : Nat → Option am_C) (N D : Nat) (bb : Nat) (v2 : Int) (v3 : Int) (v4 : Int) (v5 : Int) (u0 : Int) (q2 : R32 v2) (q3 : OKo B v3) (q4 : OKo B v4) (q5 : R32 v5) (r0 : R64 u0) (m : mR) (hm : KCo B m) (j : Nat → Int) (Q2 : Sum (Int × mR) (mR) → ag_Re af_T → Prop) (H1 : ∀ s j, cs_nd_valueOf_b101_b105_3 B s → PP bb w D pm_183 (hd_nd_valueOf_b101_b105_3 B c N v2 v3 v4 s j) (Q2 (.inl s))) (H2 : ∀ x j, cx_nd_valueOf_b101_b105_3 B x → PP bb w D pm_183 (ex_nd_valueOf_b101_b105_3 B c N v2 v3 v4 x j) (Q2 (.inr x))) : PP bb w D pm_183 (186, [(0, .ref 22), (1, .int (i32 (j 1))), (2, .int (i32 v2)), (3, .ref (obo B v3 + (1 + 1))), (4, .ref (obo B v4 + (5 + 1))), (5, .int (i32 v5)), (6, .long (i64 (j 6)))], [.long (i64 u0)], (khp m c, N), 0, 0) (QS Q2 (kfl_nd_valueOf_b101_b105_186 v2 v3 v4 v5 u0 m)) := by
  unfold kfl_nd_valueOf_b101_b105_186
  show PP bb w D pm_183 (186, [(0, .ref 22), (1, .int (i32 (j 1))), (2, .int (i32 v2)), (3, .ref (obo B v3 + (1 + 1))), (4, .ref (obo B v4 + (5 + 1))), (5, .int (i32 v5)), (6, .long (i64 (j 6)))], [.long (i64 u0)], (khp (mO m [] []) c, N), 0, 0) _
  refine P_sto 188 [(6, .long (i64 u0)), (0, .ref 22), (1, .int (i32 (j 1))), (2, .int (i32 v2)), (3, .ref (obo B v3 + (1 + 1))), (4, .ref (obo B v4 + (5 + 1))), (5, .int (i32 v5))] rfl (fun _ => rfl) ?_
  refine P_goto 278 rfl (fun _ => rfl) ?_
  refine P_lv (b := [(0, .ref 22), (1, .int (i32 (j 1))), (2, .int (i32 v2)), (3, .ref (obo B v3 + (1 + 1))), (4, .ref (obo B v4 + (5 + 1))), (5, .int (i32 v5)), (6, .long (i64 u0))]) rfl rfl ⟨rfl, rfl, rfl, rfl, rfl, rfl, rfl, trivial⟩ ?_
  exact dg_nd_valueOf_b101_b105_278 B w c N D bb v2 v3 v4 v5 u0 q2 q3 q4 q5 r0 m hm (jk [(1, j 1)]) Q2 H1 H2
def kfb_nd_valueOf_b101_b105_3 (v2 : Int) (v3 : Int) (v4 : Int) (s : Int × mR) : Option (Sum (Int × mR) (mR)) :=
  if v2 < s.1 then
    some (.inr s.2)
  else
    if (s.2.2 18) s.1 = 257 then
      kfl_nd_valueOf_b101_b105_278 v2 v3 v4 s.1 ((s.2.2 24) s.1) s.2
    else
      if (s.2.2 18) s.1 = 400 then
        kfl_nd_valueOf_b101_b105_278 v2 v3 v4 s.1 ((s.2.2 101) (65536 * v3 + ((s.2.2 19) s.1))) s.2
      else
        if (s.2.2 18) s.1 = 401 then
          kfl_nd_valueOf_b101_b105_278 v2 v3 v4 s.1 ((s.2.2 105) (65536 * v4 + ((s.2.2 19) s.1))) s.2
        else
          if (s.2.2 18) s.1 = 402 then
            kfl_nd_valueOf_b101_b105_278 v2 v3 v4 s.1 (ushr64 ((s.2.2 25) ((s.2.2 19) s.1)) ((s.2.2 20) s.1)) s.2
          else
            if (s.2.2 18) s.1 = 404 then
              if cmp64 ((s.2.2 25) ((s.2.2 19) s.1)) 0 = 0 then
                kfl_nd_valueOf_b101_b105_186 v2 v3 v4 s.1 ((s.2.2 25) ((s.2.2 21) s.1)) s.2
              else
                kfl_nd_valueOf_b101_b105_186 v2 v3 v4 s.1 ((s.2.2 25) ((s.2.2 20) s.1)) s.2
            else
              if (s.2.2 18) s.1 = 11051 then
                kfl_nd_valueOf_b101_b105_278 v2 v3 v4 s.1 (or64 (shl64 ((s.2.2 25) ((s.2.2 19) s.1)) ((s.2.2 22) ((s.2.2 20) s.1))) ((s.2.2 25) ((s.2.2 20) s.1))) s.2
              else
                bnd (kf_nd_reckon ((s.2.2 18) s.1) ((s.2.2 25) ((s.2.2 19) s.1)) ((s.2.2 25) ((s.2.2 20) s.1)) ((s.2.2 22) s.1) s.2) fun y14 =>
                kfl_nd_valueOf_b101_b105_278 v2 v3 v4 s.1 y14 s.2
theorem dh_nd_valueOf_b101_b105_3 (B : oB) (w : wX) (c : Nat → Option am_C) (N D : Nat) (v2 : Int) (v3 : Int) (v4 : Int) (q2 : R32 v2) (q3 : OKo B v3) (q4 : OKo B v4) (bb : Nat) (Q2 : Sum (Int × mR) (mR) → ag_Re af_T → Prop) (H1 : ∀ s j, cs_nd_valueOf_b101_b105_3 B s → PP bb w D pm_183 (hd_nd_valueOf_b101_b105_3 B c N v2 v3 v4 s j) (Q2 (.inl s))) (H2 : ∀ x j, cx_nd_valueOf_b101_b105_3 B x → PP bb w D pm_183 (ex_nd_valueOf_b101_b105_3 B c N v2 v3 v4 x j) (Q2 (.inr x))) (s : Int × mR) (j : Nat → Int) (hs : cs_nd_valueOf_b101_b105_3 B s) : PP (bb + 1) w D pm_183 (hd_nd_valueOf_b101_b105_3 B c N v2 v3 v4 s j) (QS Q2 (kfb_nd_valueOf_b101_b105_3 v2 v3 v4 s)) := by
  obtain ⟨g5, gm⟩ := hs
  unfold kfb_nd_valueOf_b101_b105_3
  show PP (bb + 1) w D pm_183 (3, [(0, .ref 22), (1, .int (i32 (j 1))), (2, .int (i32 v2)), (3, .ref (obo B v3 + (1 + 1))), (4, .ref (obo B v4 + (5 + 1))), (5, .int (i32 s.1)), (6, .long (i64 (j 6)))], [], (khp (mO s.2 [] []) c, N), 0, 0) _
  refine P1_ld 5 (.int (i32 s.1)) rfl (fun _ => rfl) ?_
  refine P_ld 6 (.int (i32 v2)) rfl (fun _ => rfl) ?_
  refine P_icF 304 9 rfl rfl rfl g5 q2 rfl (fun h6 => ?_) (fun h6 => ?_)
  · skip
    refine P_some ?_
    exact H2 s.2 (jk [(1, j 1), (3, v3), (4, v4), (5, s.1), (6, j 6)]) gm
  · skip
    refine P_ld 10 (.ref 22) rfl (fun _ => rfl) ?_
    refine PK_gf 13 (.ref 23) rfl rfl kd_22 rfl rfl rfl ?_
    refine P_ld 15 (.int (i32 s.1)) rfl (fun _ => rfl) ?_
    refine PK_iald2 16 18 (s.2.2 18) rfl rfl rfl g5 rfl ?_
    refine P_cs (fun h7 => ?_) (fun h7 => ?_)
    · skip
      refine P_cast 257 h7 ?_
      refine P_pop 76 rfl (fun _ => rfl) ?_
      refine P_ld 77 (.ref 22) rfl (fun _ => rfl) ?_
      refine PK_gf 80 (.ref 29) rfl rfl kd_22 rfl rfl rfl ?_
      refine P_ld 82 (.int (i32 s.1)) rfl (fun _ => rfl) ?_
      refine PK_lald2 83 24 (s.2.2 24) rfl rfl rfl g5 rfl ?_
      refine P_sto 85 [(6, .long (i64 ((s.2.2 24) s.1))), (0, .ref 22), (1, .int (i32 (j 1))), (2, .int (i32 v2)), (3, .ref (obo B v3 + (1 + 1))), (4, .ref (obo B v4 + (5 + 1))), (5, .int (i32 s.1))] rfl (fun _ => rfl) ?_
      refine P_goto 278 rfl (fun _ => rfl) ?_
      refine P_lv (b := [(0, .ref 22), (1, .int (i32 (j 1))), (2, .int (i32 v2)), (3, .ref (obo B v3 + (1 + 1))), (4, .ref (obo B v4 + (5 + 1))), (5, .int (i32 s.1)), (6, .long (i64 ((s.2.2 24) s.1)))]) rfl rfl ⟨rfl, rfl, rfl, rfl, rfl, rfl, rfl, trivial⟩ ?_
      exact dg_nd_valueOf_b101_b105_278 B w c N D bb v2 v3 v4 s.1 ((s.2.2 24) s.1) q2 q3 q4 g5 (kE_l (KCn_a gm.1 24) rfl _) s.2 gm (jk [(1, j 1)]) Q2 H1 H2
    · skip
      refine P_cs (fun h8 => ?_) (fun h8 => ?_)
      · skip
        refine P_cast 400 h8 ?_
        refine P_pop 88 rfl (fun _ => rfl) ?_
        refine P_ld 89 (.ref (obo B v3 + (1 + 1))) rfl (fun _ => rfl) ?_
        refine P_ld 90 (.ref 22) rfl (fun _ => rfl) ?_
        refine PK_gf 93 (.ref 24) rfl rfl kd_22 rfl rfl rfl ?_
        refine P_ld 95 (.int (i32 s.1)) rfl (fun _ => rfl) ?_
        refine PK_iald2 96 19 (s.2.2 19) rfl rfl rfl g5 rfl ?_
        refine PK_lalo2 97 1 (s.2.2 101) rfl rfl rfl gm rfl rfl q3 (kE_i (KCn_a gm.1 19) rfl _) rfl ?_
        refine P_sto 99 [(6, .long (i64 ((s.2.2 101) (65536 * v3 + ((s.2.2 19) s.1))))), (0, .ref 22), (1, .int (i32 (j 1))), (2, .int (i32 v2)), (3, .ref (obo B v3 + (1 + 1))), (4, .ref (obo B v4 + (5 + 1))), (5, .int (i32 s.1))] rfl (fun _ => rfl) ?_
        refine P_goto 278 rfl (fun _ => rfl) ?_
        refine P_lv (b := [(0, .ref 22), (1, .int (i32 (j 1))), (2, .int (i32 v2)), (3, .ref (obo B v3 + (1 + 1))), (4, .ref (obo B v4 + (5 + 1))), (5, .int (i32 s.1)), (6, .long (i64 ((s.2.2 101) (65536 * v3 + ((s.2.2 19) s.1)))))]) rfl rfl ⟨rfl, rfl, rfl, rfl, rfl, rfl, rfl, trivial⟩ ?_
        exact dg_nd_valueOf_b101_b105_278 B w c N D bb v2 v3 v4 s.1 ((s.2.2 101) (65536 * v3 + ((s.2.2 19) s.1))) q2 q3 q4 g5 (kE_l (KCn_a gm.1 101) rfl _) s.2 gm (jk [(1, j 1)]) Q2 H1 H2
      · skip
        refine P_cs (fun h9 => ?_) (fun h9 => ?_)
        · skip
          refine P_cast 401 h9 ?_
          refine P_pop 102 rfl (fun _ => rfl) ?_
          refine P_ld 104 (.ref (obo B v4 + (5 + 1))) rfl (fun _ => rfl) ?_
          refine P_ld 105 (.ref 22) rfl (fun _ => rfl) ?_
          refine PK_gf 108 (.ref 24) rfl rfl kd_22 rfl rfl rfl ?_
          refine P_ld 110 (.int (i32 s.1)) rfl (fun _ => rfl) ?_
          refine PK_iald2 111 19 (s.2.2 19) rfl rfl rfl g5 rfl ?_
          refine PK_lalo2 112 5 (s.2.2 105) rfl rfl rfl gm rfl rfl q4 (kE_i (KCn_a gm.1 19) rfl _) rfl ?_
          refine P_sto 114 [(6, .long (i64 ((s.2.2 105) (65536 * v4 + ((s.2.2 19) s.1))))), (0, .ref 22), (1, .int (i32 (j 1))), (2, .int (i32 v2)), (3, .ref (obo B v3 + (1 + 1))), (4, .ref (obo B v4 + (5 + 1))), (5, .int (i32 s.1))] rfl (fun _ => rfl) ?_
          refine P_goto 278 rfl (fun _ => rfl) ?_
          refine P_lv (b := [(0, .ref 22), (1, .int (i32 (j 1))), (2, .int (i32 v2)), (3, .ref (obo B v3 + (1 + 1))), (4, .ref (obo B v4 + (5 + 1))), (5, .int (i32 s.1)), (6, .long (i64 ((s.2.2 105) (65536 * v4 + ((s.2.2 19) s.1)))))]) rfl rfl ⟨rfl, rfl, rfl, rfl, rfl, rfl, rfl, trivial⟩ ?_
          exact dg_nd_valueOf_b101_b105_278 B w c N D bb v2 v3 v4 s.1 ((s.2.2 105) (65536 * v4 + ((s.2.2 19) s.1))) q2 q3 q4 g5 (kE_l (KCn_a gm.1 105) rfl _) s.2 gm (jk [(1, j 1)]) Q2 H1 H2
        · skip
          refine P_cs (fun h10 => ?_) (fun h10 => ?_)
          · skip
            refine P_cast 402 h10 ?_
            refine P_pop 117 rfl (fun _ => rfl) ?_
            refine P_ld 118 (.ref 22) rfl (fun _ => rfl) ?_
            refine PK_gf 121 (.ref 30) rfl rfl kd_22 rfl rfl rfl ?_
            refine P_ld 122 (.ref 22) rfl (fun _ => rfl) ?_
            refine PK_gf 125 (.ref 24) rfl rfl kd_22 rfl rfl rfl ?_
            refine P_ld 127 (.int (i32 s.1)) rfl (fun _ => rfl) ?_
            refine PK_iald2 128 19 (s.2.2 19) rfl rfl rfl g5 rfl ?_
            refine PK_lald2 129 25 (s.2.2 25) rfl rfl rfl (kE_i (KCn_a gm.1 19) rfl _) rfl ?_
            refine P_ld 130 (.ref 22) rfl (fun _ => rfl) ?_
            refine PK_gf 133 (.ref 25) rfl rfl kd_22 rfl rfl rfl ?_
            refine P_ld 135 (.int (i32 s.1)) rfl (fun _ => rfl) ?_
            refine PK_iald2 136 20 (s.2.2 20) rfl rfl rfl g5 rfl ?_
            refine P_opl 137 (ushr64 ((s.2.2 25) ((s.2.2 19) s.1)) ((s.2.2 20) s.1)) _ rfl (fun _ => rfl) (Int64.ofInt_toInt _).symm ?_
            refine P_sto 139 [(6, .long (i64 (ushr64 ((s.2.2 25) ((s.2.2 19) s.1)) ((s.2.2 20) s.1)))), (0, .ref 22), (1, .int (i32 (j 1))), (2, .int (i32 v2)), (3, .ref (obo B v3 + (1 + 1))), (4, .ref (obo B v4 + (5 + 1))), (5, .int (i32 s.1))] rfl (fun _ => rfl) ?_
            refine P_goto 278 rfl (fun _ => rfl) ?_
            refine P_lv (b := [(0, .ref 22), (1, .int (i32 (j 1))), (2, .int (i32 v2)), (3, .ref (obo B v3 + (1 + 1))), (4, .ref (obo B v4 + (5 + 1))), (5, .int (i32 s.1)), (6, .long (i64 (ushr64 ((s.2.2 25) ((s.2.2 19) s.1)) ((s.2.2 20) s.1))))]) rfl rfl ⟨rfl, rfl, rfl, rfl, rfl, rfl, rfl, trivial⟩ ?_
            exact dg_nd_valueOf_b101_b105_278 B w c N D bb v2 v3 v4 s.1 (ushr64 ((s.2.2 25) ((s.2.2 19) s.1)) ((s.2.2 20) s.1)) q2 q3 q4 g5 t64_r s.2 gm (jk [(1, j 1)]) Q2 H1 H2
          · skip
            refine P_cs (fun h11 => ?_) (fun h11 => ?_)
            · skip
              refine P_cast 404 h11 ?_
              refine P_pop 142 rfl (fun _ => rfl) ?_
              refine P_ld 143 (.ref 22) rfl (fun _ => rfl) ?_
              refine PK_gf 146 (.ref 30) rfl rfl kd_22 rfl rfl rfl ?_
              refine P_ld 147 (.ref 22) rfl (fun _ => rfl) ?_
              refine PK_gf 150 (.ref 24) rfl rfl kd_22 rfl rfl rfl ?_
              refine P_ld 152 (.int (i32 s.1)) rfl (fun _ => rfl) ?_
              refine PK_iald2 153 19 (s.2.2 19) rfl rfl rfl g5 rfl ?_
              refine PK_lald2 154 25 (s.2.2 25) rfl rfl rfl (kE_i (KCn_a gm.1 19) rfl _) rfl ?_
              refine P_ld 155 (.long (i64 0)) rfl (fun _ => rfl) ?_
              refine P_op 156 (cmp64 ((s.2.2 25) ((s.2.2 19) s.1)) 0) _ rfl (fun _ => rfl) (o_cmp (kE_l (KCn_a gm.1 25) rfl _) (l64 0 rfl)) ?_
              refine P_ifF 174 159 rfl rfl rfl cmp64_r rfl (fun h12 => ?_) (fun h12 => ?_)
              · skip
                refine P_ld 175 (.ref 22) rfl (fun _ => rfl) ?_
                refine PK_gf 178 (.ref 30) rfl rfl kd_22 rfl rfl rfl ?_
                refine P_ld 179 (.ref 22) rfl (fun _ => rfl) ?_
                refine PK_gf 182 (.ref 26) rfl rfl kd_22 rfl rfl rfl ?_
                refine P_ld 184 (.int (i32 s.1)) rfl (fun _ => rfl) ?_
                refine PK_iald2 185 21 (s.2.2 21) rfl rfl rfl g5 rfl ?_
                refine PK_lald2 186 25 (s.2.2 25) rfl rfl rfl (kE_i (KCn_a gm.1 21) rfl _) rfl ?_
                exact dg_nd_valueOf_b101_b105_186 B w c N D bb v2 v3 v4 s.1 ((s.2.2 25) ((s.2.2 21) s.1)) q2 q3 q4 g5 (kE_l (KCn_a gm.1 25) rfl _) s.2 gm (jk [(1, j 1), (6, j 6)]) Q2 H1 H2
              · skip
                refine P_ld 160 (.ref 22) rfl (fun _ => rfl) ?_
                refine PK_gf 163 (.ref 30) rfl rfl kd_22 rfl rfl rfl ?_
                refine P_ld 164 (.ref 22) rfl (fun _ => rfl) ?_
                refine PK_gf 167 (.ref 25) rfl rfl kd_22 rfl rfl rfl ?_
                refine P_ld 169 (.int (i32 s.1)) rfl (fun _ => rfl) ?_
                refine PK_iald2 170 20 (s.2.2 20) rfl rfl rfl g5 rfl ?_
                refine PK_lald2 171 25 (s.2.2 25) rfl rfl rfl (kE_i (KCn_a gm.1 20) rfl _) rfl ?_
                refine P_goto 186 rfl (fun _ => rfl) ?_
                exact dg_nd_valueOf_b101_b105_186 B w c N D bb v2 v3 v4 s.1 ((s.2.2 25) ((s.2.2 20) s.1)) q2 q3 q4 g5 (kE_l (KCn_a gm.1 25) rfl _) s.2 gm (jk [(1, j 1), (6, j 6)]) Q2 H1 H2
            · skip
              refine P_cs (fun h13 => ?_) (fun h13 => ?_)
              · skip
                refine P_cast 11051 h13 ?_
                refine P_pop 191 rfl (fun _ => rfl) ?_
                refine P_ld 192 (.ref 22) rfl (fun _ => rfl) ?_
                refine PK_gf 195 (.ref 30) rfl rfl kd_22 rfl rfl rfl ?_
                refine P_ld 196 (.ref 22) rfl (fun _ => rfl) ?_
                refine PK_gf 199 (.ref 24) rfl rfl kd_22 rfl rfl rfl ?_
                refine P_ld 201 (.int (i32 s.1)) rfl (fun _ => rfl) ?_
                refine PK_iald2 202 19 (s.2.2 19) rfl rfl rfl g5 rfl ?_
                refine PK_lald2 203 25 (s.2.2 25) rfl rfl rfl (kE_i (KCn_a gm.1 19) rfl _) rfl ?_
                refine P_ld 204 (.ref 22) rfl (fun _ => rfl) ?_
                refine PK_gf 207 (.ref 27) rfl rfl kd_22 rfl rfl rfl ?_
                refine P_ld 208 (.ref 22) rfl (fun _ => rfl) ?_
                refine PK_gf 211 (.ref 25) rfl rfl kd_22 rfl rfl rfl ?_
                refine P_ld 213 (.int (i32 s.1)) rfl (fun _ => rfl) ?_
                refine PK_iald2 214 20 (s.2.2 20) rfl rfl rfl g5 rfl ?_
                refine PK_iald2 215 22 (s.2.2 22) rfl rfl rfl (kE_i (KCn_a gm.1 20) rfl _) rfl ?_
                refine P_opl 216 (shl64 ((s.2.2 25) ((s.2.2 19) s.1)) ((s.2.2 22) ((s.2.2 20) s.1))) _ rfl (fun _ => rfl) (Int64.ofInt_toInt _).symm ?_
                refine P_ld 217 (.ref 22) rfl (fun _ => rfl) ?_
                refine PK_gf 220 (.ref 30) rfl rfl kd_22 rfl rfl rfl ?_
                refine P_ld 221 (.ref 22) rfl (fun _ => rfl) ?_
                refine PK_gf 224 (.ref 25) rfl rfl kd_22 rfl rfl rfl ?_
                refine P_ld 226 (.int (i32 s.1)) rfl (fun _ => rfl) ?_
                refine PK_iald2 227 20 (s.2.2 20) rfl rfl rfl g5 rfl ?_
                refine PK_lald2 228 25 (s.2.2 25) rfl rfl rfl (kE_i (KCn_a gm.1 20) rfl _) rfl ?_
                refine P_opl 229 (or64 (shl64 ((s.2.2 25) ((s.2.2 19) s.1)) ((s.2.2 22) ((s.2.2 20) s.1))) ((s.2.2 25) ((s.2.2 20) s.1))) _ rfl (fun _ => rfl) (Int64.ofInt_toInt _).symm ?_
                refine P_sto 231 [(6, .long (i64 (or64 (shl64 ((s.2.2 25) ((s.2.2 19) s.1)) ((s.2.2 22) ((s.2.2 20) s.1))) ((s.2.2 25) ((s.2.2 20) s.1))))), (0, .ref 22), (1, .int (i32 (j 1))), (2, .int (i32 v2)), (3, .ref (obo B v3 + (1 + 1))), (4, .ref (obo B v4 + (5 + 1))), (5, .int (i32 s.1))] rfl (fun _ => rfl) ?_
                refine P_goto 278 rfl (fun _ => rfl) ?_
                refine P_lv (b := [(0, .ref 22), (1, .int (i32 (j 1))), (2, .int (i32 v2)), (3, .ref (obo B v3 + (1 + 1))), (4, .ref (obo B v4 + (5 + 1))), (5, .int (i32 s.1)), (6, .long (i64 (or64 (shl64 ((s.2.2 25) ((s.2.2 19) s.1)) ((s.2.2 22) ((s.2.2 20) s.1))) ((s.2.2 25) ((s.2.2 20) s.1)))))]) rfl rfl ⟨rfl, rfl, rfl, rfl, rfl, rfl, rfl, trivial⟩ ?_
                exact dg_nd_valueOf_b101_b105_278 B w c N D bb v2 v3 v4 s.1 (or64 (shl64 ((s.2.2 25) ((s.2.2 19) s.1)) ((s.2.2 22) ((s.2.2 20) s.1))) ((s.2.2 25) ((s.2.2 20) s.1))) q2 q3 q4 g5 t64_r s.2 gm (jk [(1, j 1)]) Q2 H1 H2
              · skip
                refine P_lkd 234 rfl rfl (kE_i (KCn_a gm.1 18) rfl _) (by simp [Op.lookupswitch.offset, h7, Ne.symm h7, h8, Ne.symm h8, h9, Ne.symm h9, h10, Ne.symm h10, h11, Ne.symm h11, h13, Ne.symm h13]) ?_
                refine P_ld 235 (.ref 22) rfl (fun _ => rfl) ?_
                refine P_ld 236 (.ref 22) rfl (fun _ => rfl) ?_
                refine PK_gf 239 (.ref 23) rfl rfl kd_22 rfl rfl rfl ?_
                refine P_ld 241 (.int (i32 s.1)) rfl (fun _ => rfl) ?_
                refine PK_iald2 242 18 (s.2.2 18) rfl rfl rfl g5 rfl ?_
                refine P_ld 243 (.ref 22) rfl (fun _ => rfl) ?_
                refine PK_gf 246 (.ref 30) rfl rfl kd_22 rfl rfl rfl ?_
                refine P_ld 247 (.ref 22) rfl (fun _ => rfl) ?_
                refine PK_gf 250 (.ref 24) rfl rfl kd_22 rfl rfl rfl ?_
                refine P_ld 252 (.int (i32 s.1)) rfl (fun _ => rfl) ?_
                refine PK_iald2 253 19 (s.2.2 19) rfl rfl rfl g5 rfl ?_
                refine PK_lald2 254 25 (s.2.2 25) rfl rfl rfl (kE_i (KCn_a gm.1 19) rfl _) rfl ?_
                refine P_ld 255 (.ref 22) rfl (fun _ => rfl) ?_
                refine PK_gf 258 (.ref 30) rfl rfl kd_22 rfl rfl rfl ?_
                refine P_ld 259 (.ref 22) rfl (fun _ => rfl) ?_
                refine PK_gf 262 (.ref 25) rfl rfl kd_22 rfl rfl rfl ?_
                refine P_ld 264 (.int (i32 s.1)) rfl (fun _ => rfl) ?_
                refine PK_iald2 265 20 (s.2.2 20) rfl rfl rfl g5 rfl ?_
                refine PK_lald2 266 25 (s.2.2 25) rfl rfl rfl (kE_i (KCn_a gm.1 20) rfl _) rfl ?_
                refine P_ld 267 (.ref 22) rfl (fun _ => rfl) ?_
                refine PK_gf 270 (.ref 27) rfl rfl kd_22 rfl rfl rfl ?_
                refine P_ld 272 (.int (i32 s.1)) rfl (fun _ => rfl) ?_
                refine PK_iald2 273 22 (s.2.2 22) rfl rfl rfl g5 rfl ?_
                refine P_cp2 276 184 [.ref 22, .int (i32 ((s.2.2 18) s.1)), .long (i64 ((s.2.2 25) ((s.2.2 19) s.1))), .long (i64 ((s.2.2 25) ((s.2.2 20) s.1))), .int (i32 ((s.2.2 22) s.1))] [] rfl (fun _ => rfl) rfl (D_nd_reckon B w s.2 c N D gm ((s.2.2 18) s.1) ((s.2.2 25) ((s.2.2 19) s.1)) ((s.2.2 25) ((s.2.2 20) s.1)) ((s.2.2 22) s.1) (kE_i (KCn_a gm.1 18) rfl _) (kE_l (KCn_a gm.1 25) rfl _) (kE_l (KCn_a gm.1 25) rfl _) (kE_i (KCn_a gm.1 22) rfl _)) (fun y14 h15 => ?_)
                refine P_sto 278 [(6, .long (i64 y14)), (0, .ref 22), (1, .int (i32 (j 1))), (2, .int (i32 v2)), (3, .ref (obo B v3 + (1 + 1))), (4, .ref (obo B v4 + (5 + 1))), (5, .int (i32 s.1))] rfl (fun _ => rfl) ?_
                refine P_lv (b := [(0, .ref 22), (1, .int (i32 (j 1))), (2, .int (i32 v2)), (3, .ref (obo B v3 + (1 + 1))), (4, .ref (obo B v4 + (5 + 1))), (5, .int (i32 s.1)), (6, .long (i64 y14))]) rfl rfl ⟨rfl, rfl, rfl, rfl, rfl, rfl, rfl, trivial⟩ ?_
                exact dg_nd_valueOf_b101_b105_278 B w c N D bb v2 v3 v4 s.1 y14 q2 q3 q4 g5 h15 s.2 gm (jk [(1, j 1)]) Q2 H1 H2
def kf_nd_valueOf_b101_b105 (v1 : Int) (v2 : Int) (v3 : Int) (v4 : Int) (m : mR) : Option (Int × mR) :=
  bnd (whl (kfb_nd_valueOf_b101_b105_3 v2 v3 v4) (v1, m)) (fun e17 : mR =>
    kfl_nd_valueOf_b101_b105_304 v2 e17)
theorem D_nd_valueOf_b101_b105 (B : oB) (w : wX) (m : mR) (c : Nat → Option am_C) (N D : Nat) (hm : KCo B m) (v1 : Int) (v2 : Int) (v3 : Int) (v4 : Int) (q1 : R32 v1) (q2 : R32 v2) (q3 : OKo B v3) (q4 : OKo B v4) : PC w D 183 [.ref 22, .int (i32 v1), .int (i32 v2), .ref (obo B v3 + (1 + 1)), .ref (obo B v4 + (5 + 1))] (khp m c, N) (QS (FO2 B c N) (kf_nd_valueOf_b101_b105 v1 v2 v3 v4 m)) := by
  refine Pc_of (fun D bb => ?_) D
  unfold kf_nd_valueOf_b101_b105
  show PP bb w D pm_183 (0, [(0, .ref 22), (1, .int (i32 v1)), (2, .int (i32 v2)), (3, .ref (obo B v3 + (1 + 1))), (4, .ref (obo B v4 + (5 + 1)))], [], (khp (mO m [] []) c, N), 0, 0) _
  refine P_ld 1 (.int (i32 v1)) rfl (fun _ => rfl) ?_
  refine P_sto 3 [(5, .int (i32 v1)), (0, .ref 22), (1, .int (i32 v1)), (2, .int (i32 v2)), (3, .ref (obo B v3 + (1 + 1))), (4, .ref (obo B v4 + (5 + 1)))] rfl (fun _ => rfl) ?_
  refine P_lv (b := [(0, .ref 22), (1, .int (i32 v1)), (2, .int (i32 v2)), (3, .ref (obo B v3 + (1 + 1))), (4, .ref (obo B v4 + (5 + 1))), (5, .int (i32 v1)), (6, .long (i64 0))]) rfl rfl ⟨rfl, rfl, rfl, rfl, rfl, rfl, trivial⟩ ?_
  refine P_bnd ?_
  refine P_whl (fun bb Q2 H1 H2 s9 j9 hs9 => dh_nd_valueOf_b101_b105_3 B w c N D v2 v3 v4 q2 q3 q4 bb Q2 H1 H2 s9 j9 hs9) bb (fun e17 j q18 => ?_) (v1, m) (jk [(1, v1)]) ⟨q1, hm⟩
  have q19 := q18
  show PP bb w D pm_183 (304, [(0, .ref 22), (1, .int (i32 (j 1))), (2, .int (i32 v2)), (3, .ref (obo B (j 3) + (1 + 1))), (4, .ref (obo B (j 4) + (5 + 1))), (5, .int (i32 (j 5))), (6, .long (i64 (j 6)))], [], (khp (mO e17 [] []) c, N), 0, 0) (QS _ (kfl_nd_valueOf_b101_b105_304 v2 e17))
  exact dg_nd_valueOf_b101_b105_304 B w c N D bb v2 q2 e17 q19 (jk [(1, j 1), (3, j 3), (4, j 4), (5, j 5), (6, j 6)])
def kf_op_remainder (v0 : Int) (v2 : Int) (m : mR) : Option Int :=
  if (1 : Int) ≤ v2 then
    some (cut (rem64 (cutl ((cutl ((rem64 (ushr64 v0 1) v2) * 2)) + (and64 v0 1))) v2))
  else
    some 0
theorem D_op_remainder (B : oB) (w : wX) (m : mR) (c : Nat → Option am_C) (N D : Nat) (hm : KCo B m) (v0 : Int) (v2 : Int) (q0 : R64 v0) (q2 : R32 v2) : PC w D 199 [.long (i64 v0), .int (i32 v2)] (khp m c, N) (QS (FP1 (khp m c, N)) (kf_op_remainder v0 v2 m)) := by
  refine Pc_of (fun D bb => ?_) D
  unfold kf_op_remainder
  show PP bb w D pm_199 (0, [(0, .long (i64 v0)), (2, .int (i32 v2))], [], (khp (mO m [] []) c, N), 0, 0) _
  refine P_ld 1 (.int (i32 v2)) rfl (fun _ => rfl) ?_
  refine P_ld 2 (.int (i32 1)) rfl (fun _ => rfl) ?_
  refine P_icF 7 5 rfl rfl rfl q2 (l32 1 rfl) rfl (fun h1 => ?_) (fun h1 => ?_)
  · skip
    refine P_ld 8 (.long (i64 v0)) rfl (fun _ => rfl) ?_
    refine P_ld 9 (.int (i32 1)) rfl (fun _ => rfl) ?_
    refine P_opl 10 (ushr64 v0 1) _ rfl (fun _ => rfl) (Int64.ofInt_toInt _).symm ?_
    refine P_ld 11 (.int (i32 v2)) rfl (fun _ => rfl) ?_
    refine P_opl 12 v2 _ rfl (fun _ => rfl) (o_i2l q2) ?_
    refine P_lrem 13 rfl rfl ?_
    refine P_ld 16 (.long (i64 2)) rfl (fun _ => rfl) ?_
    refine P_opl 17 (cutl ((rem64 (ushr64 v0 1) v2) * 2)) _ rfl (fun _ => rfl) p_mul ?_
    refine P_ld 18 (.long (i64 v0)) rfl (fun _ => rfl) ?_
    refine P_ld 19 (.long (i64 1)) rfl (fun _ => rfl) ?_
    refine P_opl 20 (and64 v0 1) _ rfl (fun _ => rfl) (Int64.ofInt_toInt _).symm ?_
    refine P_opl 21 (cutl ((cutl ((rem64 (ushr64 v0 1) v2) * 2)) + (and64 v0 1))) _ rfl (fun _ => rfl) p_add ?_
    refine P_ld 22 (.int (i32 v2)) rfl (fun _ => rfl) ?_
    refine P_opl 23 v2 _ rfl (fun _ => rfl) (o_i2l q2) ?_
    refine P_lrem 24 rfl rfl ?_
    refine P_op 25 (cut (rem64 (cutl ((cutl ((rem64 (ushr64 v0 1) v2) * 2)) + (and64 v0 1))) v2)) _ rfl (fun _ => rfl) o_l2i ?_
    exact P_rp1 rfl cut_r
  · skip
    refine P_ld 6 (.int (i32 0)) rfl (fun _ => rfl) ?_
    exact P_rp1 rfl (l32 0 rfl)
def kfl_op_doDeed_b71_131 (v0 : Int) (v2 : Int) (v6 : Int) (v8 : Int) (v9 : Int) (m : mR) : Option (Int × mR) :=
  if (m.2 45) v2 = 61 then
    bnd (kf_op_put v0 v6 v9 m) fun y2 =>
    some (0, y2.2)
  else
    if (m.2 45) v2 = 325 then
      bnd (kf_op_takeAway v0 v6 m) fun y6 =>
      some (0, y6.2)
    else
      if (m.2 45) v2 = 327 then
        bnd (kf_op_put v0 v6 ((m.2 71) v8) m) fun y10 =>
        some (0, y10.2)
      else
        if (m.2 45) v2 = 328 then
          some (0, (mO m [] [(71, upI (m.2 71) v8 v9)]))
        else
          some (0, (mO m [] [(101, upI (m.2 101) (65536 * v0 + v6) 1)]))
theorem dg_op_doDeed_b71_131 (B : oB) (w : wX) (c : Nat → Option am_C) (N D : Nat) (bb : Nat) (v0 : Int) (v2 : Int) (v6 : Int) (v8 : Int) (v9 : Int) (q0 : OKo B v0) (q2 : R32 v2) (q6 : R32 v6) (q8 : R32 v8) (q9 : R64 v9) (m : mR) (hm : KCo B m) (j : Nat → Int) : PP bb w D pm_198 (131, [(0, .ref (obo B v0)), (1, .ref 12), (2, .int (i32 v2)), (3, .ref 188), (4, .ref 45), (5, .ref 22), (6, .int (i32 v6)), (7, .int (i32 (j 7))), (8, .int (i32 v8)), (9, .long (i64 v9))], [], (khp m c, N), 0, 0) (QS (FO0 B c N) (kfl_op_doDeed_b71_131 v0 v2 v6 v8 v9 m)) := by
  unfold kfl_op_doDeed_b71_131
  show PP bb w D pm_198 (131, [(0, .ref (obo B v0)), (1, .ref 12), (2, .int (i32 v2)), (3, .ref 188), (4, .ref 45), (5, .ref 22), (6, .int (i32 v6)), (7, .int (i32 (j 7))), (8, .int (i32 v8)), (9, .long (i64 v9))], [], (khp (mO m [] []) c, N), 0, 0) _
  refine P_ld 133 (.ref 45) rfl (fun _ => rfl) ?_
  refine PK_gf 136 (.ref 52) rfl rfl kd_45 rfl rfl rfl ?_
  refine P_ld 137 (.int (i32 v2)) rfl (fun _ => rfl) ?_
  refine PK_iald2 138 45 (m.2 45) rfl rfl rfl q2 rfl ?_
  refine P_cs (fun h1 => ?_) (fun h1 => ?_)
  · skip
    refine P_cast 61 h1 ?_
    refine P_pop 180 rfl (fun _ => rfl) ?_
    refine P_ld 181 (.ref (obo B v0)) rfl (fun _ => rfl) ?_
    refine P_ld 183 (.int (i32 v6)) rfl (fun _ => rfl) ?_
    refine P_ld 185 (.long (i64 v9)) rfl (fun _ => rfl) ?_
    refine P_co0 188 200 [.ref (obo B v0), .int (i32 v6), .long (i64 v9)] [] rfl (inv_vt (args := [.long (i64 v9), .int (i32 v6)]) (khp_oo hm rfl rfl q0) rfl rfl rfl) rfl (D_op_put B w m c N D hm v0 v6 v9 q0 q6 q9) (fun y2 n4 => ?_)
    refine P_goto 230 rfl (fun _ => rfl) ?_
    exact P_ro0 rfl rfl n4
  · skip
    refine P_cs (fun h5 => ?_) (fun h5 => ?_)
    · skip
      refine P_cast 325 h5 ?_
      refine P_pop 213 rfl (fun _ => rfl) ?_
      refine P_ld 214 (.ref (obo B v0)) rfl (fun _ => rfl) ?_
      refine P_ld 216 (.int (i32 v6)) rfl (fun _ => rfl) ?_
      refine P_co0 219 201 [.ref (obo B v0), .int (i32 v6)] [] rfl (inv_vt (args := [.int (i32 v6)]) (khp_oo hm rfl rfl q0) rfl rfl rfl) rfl (D_op_takeAway B w m c N D hm v0 v6 q0 q6) (fun y6 n8 => ?_)
      refine P_goto 230 rfl (fun _ => rfl) ?_
      exact P_ro0 rfl rfl n8
    · skip
      refine P_cs (fun h9 => ?_) (fun h9 => ?_)
      · skip
        refine P_cast 327 h9 ?_
        refine P_pop 191 rfl (fun _ => rfl) ?_
        refine P_ld 192 (.ref (obo B v0)) rfl (fun _ => rfl) ?_
        refine P_ld 194 (.int (i32 v6)) rfl (fun _ => rfl) ?_
        refine P_ld 195 (.ref 188) rfl (fun _ => rfl) ?_
        refine P_ld 197 (.int (i32 v8)) rfl (fun _ => rfl) ?_
        refine PK_lald2 198 71 (m.2 71) rfl rfl rfl q8 rfl ?_
        refine P_co0 201 200 [.ref (obo B v0), .int (i32 v6), .long (i64 ((m.2 71) v8))] [] rfl (inv_vt (args := [.long (i64 ((m.2 71) v8)), .int (i32 v6)]) (khp_oo hm rfl rfl q0) rfl rfl rfl) rfl (D_op_put B w m c N D hm v0 v6 ((m.2 71) v8) q0 q6 (kE_l (KCn_a hm.1 71) rfl _)) (fun y10 n12 => ?_)
        refine P_goto 230 rfl (fun _ => rfl) ?_
        exact P_ro0 rfl rfl n12
      · skip
        refine P_cs (fun h13 => ?_) (fun h13 => ?_)
        · skip
          refine P_cast 328 h13 ?_
          refine P_pop 204 rfl (fun _ => rfl) ?_
          refine P_ld 205 (.ref 188) rfl (fun _ => rfl) ?_
          refine P_ld 207 (.int (i32 v8)) rfl (fun _ => rfl) ?_
          refine P_ld 209 (.long (i64 v9)) rfl (fun _ => rfl) ?_
          refine PK_last2 (a' := [(71, upI (m.2 71) v8 v9)]) 210 71 (m.2 71) rfl rfl rfl q8 rfl rfl ?_
          refine P_goto 230 rfl (fun _ => rfl) ?_
          exact P_ro0 rfl rfl (KCo_mO hm rfl rfl (KC6 hm rfl) trivial ⟨(kE_ul (KCn_a hm.1 71) rfl q9), trivial⟩)
        · skip
          refine P_lkd 222 rfl rfl (kE_i (KCn_a hm.1 45) rfl _) (by simp [Op.lookupswitch.offset, h1, Ne.symm h1, h5, Ne.symm h5, h9, Ne.symm h9, h13, Ne.symm h13]) ?_
          refine P_ld 223 (.ref (obo B v0)) rfl (fun _ => rfl) ?_
          refine PK_gor 226 rfl rfl (OKr_o hm rfl rfl q0) (obr_o hm rfl) rfl ?_
          refine P_ld 228 (.int (i32 v6)) rfl (fun _ => rfl) ?_
          refine P_ld 229 (.long (i64 1)) rfl (fun _ => rfl) ?_
          refine PK_lasto2 (a' := [(101, upI (m.2 101) (65536 * v0 + v6) 1)]) 230 1 (m.2 101) rfl rfl rfl hm rfl rfl q0 q6 rfl rfl ?_
          exact P_ro0 rfl rfl (KCo_mO hm rfl rfl (KC6 hm rfl) trivial ⟨(kE_ul (KCn_a hm.1 101) rfl (l64 1 rfl)), trivial⟩)
def kfl_op_doDeed_b71_88 (v0 : Int) (v2 : Int) (v6 : Int) (v8 : Int) (m : mR) : Option (Int × mR) :=
  if (m.2 51) v2 = (-1) then
    kfl_op_doDeed_b71_131 v0 v2 v6 v8 0 m
  else
    bnd (kf_nd_valueOf_b101_b105 ((m.2 50) v2) ((m.2 51) v2) v0 v0 m) fun y15 =>
    kfl_op_doDeed_b71_131 v0 v2 v6 v8 y15.1 y15.2
theorem dg_op_doDeed_b71_88 (B : oB) (w : wX) (c : Nat → Option am_C) (N D : Nat) (bb : Nat) (v0 : Int) (v2 : Int) (v6 : Int) (v8 : Int) (q0 : OKo B v0) (q2 : R32 v2) (q6 : R32 v6) (q8 : R32 v8) (m : mR) (hm : KCo B m) (j : Nat → Int) : PP bb w D pm_198 (88, [(0, .ref (obo B v0)), (1, .ref 12), (2, .int (i32 v2)), (3, .ref 188), (4, .ref 45), (5, .ref 22), (6, .int (i32 v6)), (7, .int (i32 (j 7))), (8, .int (i32 v8)), (9, .long (i64 (j 9)))], [], (khp m c, N), 0, 0) (QS (FO0 B c N) (kfl_op_doDeed_b71_88 v0 v2 v6 v8 m)) := by
  unfold kfl_op_doDeed_b71_88
  show PP bb w D pm_198 (88, [(0, .ref (obo B v0)), (1, .ref 12), (2, .int (i32 v2)), (3, .ref 188), (4, .ref 45), (5, .ref 22), (6, .int (i32 v6)), (7, .int (i32 (j 7))), (8, .int (i32 v8)), (9, .long (i64 (j 9)))], [], (khp (mO m [] []) c, N), 0, 0) _
  refine P_ld 89 (.long (i64 0)) rfl (fun _ => rfl) ?_
  refine P_sto 91 [(9, .long (i64 0)), (0, .ref (obo B v0)), (1, .ref 12), (2, .int (i32 v2)), (3, .ref 188), (4, .ref 45), (5, .ref 22), (6, .int (i32 v6)), (7, .int (i32 (j 7))), (8, .int (i32 v8))] rfl (fun _ => rfl) ?_
  refine P_ld 93 (.ref 45) rfl (fun _ => rfl) ?_
  refine PK_gf 96 (.ref 58) rfl rfl kd_45 rfl rfl rfl ?_
  refine P_ld 97 (.int (i32 v2)) rfl (fun _ => rfl) ?_
  refine PK_iald2 98 51 (m.2 51) rfl rfl rfl q2 rfl ?_
  refine P_ld 99 (.int (i32 (-1))) rfl (fun _ => rfl) ?_
  refine P_icF 131 102 rfl rfl rfl (kE_i (KCn_a hm.1 51) rfl _) (l32 (-1) rfl) rfl (fun h14 => ?_) (fun h14 => ?_)
  · skip
    refine P_lv (b := [(0, .ref (obo B v0)), (1, .ref 12), (2, .int (i32 v2)), (3, .ref 188), (4, .ref 45), (5, .ref 22), (6, .int (i32 v6)), (7, .int (i32 (j 7))), (8, .int (i32 v8)), (9, .long (i64 0))]) rfl rfl ⟨rfl, rfl, rfl, rfl, rfl, rfl, rfl, rfl, rfl, rfl, trivial⟩ ?_
    exact dg_op_doDeed_b71_131 B w c N D bb v0 v2 v6 v8 0 q0 q2 q6 q8 (l64 0 rfl) m hm (jk [(7, j 7)])
  · skip
    refine P_ld 104 (.ref 22) rfl (fun _ => rfl) ?_
    refine P_ld 106 (.ref 45) rfl (fun _ => rfl) ?_
    refine PK_gf 109 (.ref 57) rfl rfl kd_45 rfl rfl rfl ?_
    refine P_ld 110 (.int (i32 v2)) rfl (fun _ => rfl) ?_
    refine PK_iald2 111 50 (m.2 50) rfl rfl rfl q2 rfl ?_
    refine P_ld 113 (.ref 45) rfl (fun _ => rfl) ?_
    refine PK_gf 116 (.ref 58) rfl rfl kd_45 rfl rfl rfl ?_
    refine P_ld 117 (.int (i32 v2)) rfl (fun _ => rfl) ?_
    refine PK_iald2 118 51 (m.2 51) rfl rfl rfl q2 rfl ?_
    refine P_ld 119 (.ref (obo B v0)) rfl (fun _ => rfl) ?_
    refine PK_gor 122 rfl rfl (OKr_o hm rfl rfl q0) (obr_o hm rfl) rfl ?_
    refine P_ld 123 (.ref (obo B v0)) rfl (fun _ => rfl) ?_
    refine PK_gor 126 rfl rfl (OKr_o hm rfl rfl q0) (obr_o hm rfl) rfl ?_
    refine P_co2 129 183 [.ref 22, .int (i32 ((m.2 50) v2)), .int (i32 ((m.2 51) v2)), .ref (obo B v0 + (1 + 1)), .ref (obo B v0 + (5 + 1))] [] rfl (fun _ => rfl) rfl (D_nd_valueOf_b101_b105 B w m c N D hm ((m.2 50) v2) ((m.2 51) v2) v0 v0 (kE_i (KCn_a hm.1 50) rfl _) (kE_i (KCn_a hm.1 51) rfl _) q0 q0) (fun y15 h16 n17 => ?_)
    refine P_sto 131 [(9, .long (i64 y15.1)), (0, .ref (obo B v0)), (1, .ref 12), (2, .int (i32 v2)), (3, .ref 188), (4, .ref 45), (5, .ref 22), (6, .int (i32 v6)), (7, .int (i32 (j 7))), (8, .int (i32 v8))] rfl (fun _ => rfl) ?_
    refine P_lv (b := [(0, .ref (obo B v0)), (1, .ref 12), (2, .int (i32 v2)), (3, .ref 188), (4, .ref 45), (5, .ref 22), (6, .int (i32 v6)), (7, .int (i32 (j 7))), (8, .int (i32 v8)), (9, .long (i64 y15.1))]) rfl rfl ⟨rfl, rfl, rfl, rfl, rfl, rfl, rfl, rfl, rfl, rfl, trivial⟩ ?_
    exact dg_op_doDeed_b71_131 B w c N D bb v0 v2 v6 v8 y15.1 q0 q2 q6 q8 h16 y15.2 n17 (jk [(7, j 7)])
def kf_op_doDeed_b71 (v0 : Int) (v2 : Int) (m : mR) : Option (Int × mR) :=
  if (m.2 47) v2 = (-1) then
    kfl_op_doDeed_b71_88 v0 v2 ((m.2 46) v2) (-1) m
  else
    bnd (kf_nd_valueOf_b101_b105 ((m.2 48) v2) ((m.2 49) v2) v0 v0 m) fun y19 =>
    bnd (kf_op_remainder y19.1 ((y19.2.2 16) ((m.2 47) v2)) y19.2) fun y22 =>
    kfl_op_doDeed_b71_88 v0 v2 ((m.2 46) v2) (cut ((cut (((m.2 47) v2) * 64)) + y22)) y19.2
theorem D_op_doDeed_b71 (B : oB) (w : wX) (m : mR) (c : Nat → Option am_C) (N D : Nat) (hm : KCo B m) (v0 : Int) (v2 : Int) (q0 : OKo B v0) (q2 : R32 v2) : PC w D 198 [.ref (obo B v0), .ref 12, .int (i32 v2), .ref 188] (khp m c, N) (QS (FO0 B c N) (kf_op_doDeed_b71 v0 v2 m)) := by
  refine Pc_of (fun D bb => ?_) D
  unfold kf_op_doDeed_b71
  show PP bb w D pm_198 (0, [(0, .ref (obo B v0)), (1, .ref 12), (2, .int (i32 v2)), (3, .ref 188)], [], (khp (mO m [] []) c, N), 0, 0) _
  refine P_ld 1 (.ref 12) rfl (fun _ => rfl) ?_
  refine PK_gf 4 (.ref 45) rfl rfl kd_12 rfl rfl rfl ?_
  refine P_sto 6 [(4, .ref 45), (0, .ref (obo B v0)), (1, .ref 12), (2, .int (i32 v2)), (3, .ref 188)] rfl (fun _ => rfl) ?_
  refine P_ld 7 (.ref 12) rfl (fun _ => rfl) ?_
  refine PK_gf 10 (.ref 22) rfl rfl kd_12 rfl rfl rfl ?_
  refine P_sto 12 [(5, .ref 22), (4, .ref 45), (0, .ref (obo B v0)), (1, .ref 12), (2, .int (i32 v2)), (3, .ref 188)] rfl (fun _ => rfl) ?_
  refine P_ld 14 (.ref 45) rfl (fun _ => rfl) ?_
  refine PK_gf 17 (.ref 53) rfl rfl kd_45 rfl rfl rfl ?_
  refine P_ld 18 (.int (i32 v2)) rfl (fun _ => rfl) ?_
  refine PK_iald2 19 46 (m.2 46) rfl rfl rfl q2 rfl ?_
  refine P_sto 21 [(6, .int (i32 ((m.2 46) v2))), (5, .ref 22), (4, .ref 45), (0, .ref (obo B v0)), (1, .ref 12), (2, .int (i32 v2)), (3, .ref 188)] rfl (fun _ => rfl) ?_
  refine P_ld 23 (.ref 45) rfl (fun _ => rfl) ?_
  refine PK_gf 26 (.ref 54) rfl rfl kd_45 rfl rfl rfl ?_
  refine P_ld 27 (.int (i32 v2)) rfl (fun _ => rfl) ?_
  refine PK_iald2 28 47 (m.2 47) rfl rfl rfl q2 rfl ?_
  refine P_sto 30 [(7, .int (i32 ((m.2 47) v2))), (6, .int (i32 ((m.2 46) v2))), (5, .ref 22), (4, .ref 45), (0, .ref (obo B v0)), (1, .ref 12), (2, .int (i32 v2)), (3, .ref 188)] rfl (fun _ => rfl) ?_
  refine P_ld 31 (.int (i32 (-1))) rfl (fun _ => rfl) ?_
  refine P_sto 33 [(8, .int (i32 (-1))), (7, .int (i32 ((m.2 47) v2))), (6, .int (i32 ((m.2 46) v2))), (5, .ref 22), (4, .ref 45), (0, .ref (obo B v0)), (1, .ref 12), (2, .int (i32 v2)), (3, .ref 188)] rfl (fun _ => rfl) ?_
  refine P_ld 35 (.int (i32 ((m.2 47) v2))) rfl (fun _ => rfl) ?_
  refine P_ld 36 (.int (i32 (-1))) rfl (fun _ => rfl) ?_
  refine P_icF 88 39 rfl rfl rfl (kE_i (KCn_a hm.1 47) rfl _) (l32 (-1) rfl) rfl (fun h18 => ?_) (fun h18 => ?_)
  · skip
    refine P_lv (b := [(0, .ref (obo B v0)), (1, .ref 12), (2, .int (i32 v2)), (3, .ref 188), (4, .ref 45), (5, .ref 22), (6, .int (i32 ((m.2 46) v2))), (7, .int (i32 ((m.2 47) v2))), (8, .int (i32 (-1))), (9, .long (i64 0))]) rfl rfl ⟨rfl, rfl, rfl, rfl, rfl, rfl, rfl, rfl, rfl, trivial⟩ ?_
    exact dg_op_doDeed_b71_88 B w c N D bb v0 v2 ((m.2 46) v2) (-1) q0 q2 (kE_i (KCn_a hm.1 46) rfl _) (l32 (-1) rfl) m hm (jk [(7, (m.2 47) v2)])
  · skip
    refine P_ld 41 (.ref 22) rfl (fun _ => rfl) ?_
    refine P_ld 43 (.ref 45) rfl (fun _ => rfl) ?_
    refine PK_gf 46 (.ref 55) rfl rfl kd_45 rfl rfl rfl ?_
    refine P_ld 47 (.int (i32 v2)) rfl (fun _ => rfl) ?_
    refine PK_iald2 48 48 (m.2 48) rfl rfl rfl q2 rfl ?_
    refine P_ld 50 (.ref 45) rfl (fun _ => rfl) ?_
    refine PK_gf 53 (.ref 56) rfl rfl kd_45 rfl rfl rfl ?_
    refine P_ld 54 (.int (i32 v2)) rfl (fun _ => rfl) ?_
    refine PK_iald2 55 49 (m.2 49) rfl rfl rfl q2 rfl ?_
    refine P_ld 56 (.ref (obo B v0)) rfl (fun _ => rfl) ?_
    refine PK_gor 59 rfl rfl (OKr_o hm rfl rfl q0) (obr_o hm rfl) rfl ?_
    refine P_ld 60 (.ref (obo B v0)) rfl (fun _ => rfl) ?_
    refine PK_gor 63 rfl rfl (OKr_o hm rfl rfl q0) (obr_o hm rfl) rfl ?_
    refine P_co2 66 183 [.ref 22, .int (i32 ((m.2 48) v2)), .int (i32 ((m.2 49) v2)), .ref (obo B v0 + (1 + 1)), .ref (obo B v0 + (5 + 1))] [] rfl (fun _ => rfl) rfl (D_nd_valueOf_b101_b105 B w m c N D hm ((m.2 48) v2) ((m.2 49) v2) v0 v0 (kE_i (KCn_a hm.1 48) rfl _) (kE_i (KCn_a hm.1 49) rfl _) q0 q0) (fun y19 h20 n21 => ?_)
    refine P_sto 68 [(9, .long (i64 y19.1)), (8, .int (i32 (-1))), (7, .int (i32 ((m.2 47) v2))), (6, .int (i32 ((m.2 46) v2))), (5, .ref 22), (4, .ref 45), (0, .ref (obo B v0)), (1, .ref 12), (2, .int (i32 v2)), (3, .ref 188)] rfl (fun _ => rfl) ?_
    refine P_ld 70 (.int (i32 ((m.2 47) v2))) rfl (fun _ => rfl) ?_
    refine P_ld 72 (.int (i32 64)) rfl (fun _ => rfl) ?_
    refine P_op 73 (cut (((m.2 47) v2) * 64)) _ rfl (fun _ => rfl) o_mul ?_
    refine P_ld 75 (.long (i64 y19.1)) rfl (fun _ => rfl) ?_
    refine P_ld 76 (.ref 12) rfl (fun _ => rfl) ?_
    refine PK_gf 79 (.ref 19) rfl rfl kd_12 rfl rfl rfl ?_
    refine P_ld 81 (.int (i32 ((m.2 47) v2))) rfl (fun _ => rfl) ?_
    refine PK_iald2 82 16 (y19.2.2 16) rfl rfl rfl (kE_i (KCn_a hm.1 47) rfl _) rfl ?_
    refine P_cp1 85 199 [.long (i64 y19.1), .int (i32 ((y19.2.2 16) ((m.2 47) v2)))] [.int (i32 (cut (((m.2 47) v2) * 64)))] rfl (fun _ => rfl) rfl (D_op_remainder B w y19.2 c N D n21 y19.1 ((y19.2.2 16) ((m.2 47) v2)) h20 (kE_i (KCn_a n21.1 16) rfl _)) (fun y22 h23 => ?_)
    refine P_op 86 (cut ((cut (((m.2 47) v2) * 64)) + y22)) _ rfl (fun _ => rfl) o_add ?_
    refine P_sto 88 [(8, .int (i32 (cut ((cut (((m.2 47) v2) * 64)) + y22)))), (9, .long (i64 y19.1)), (7, .int (i32 ((m.2 47) v2))), (6, .int (i32 ((m.2 46) v2))), (5, .ref 22), (4, .ref 45), (0, .ref (obo B v0)), (1, .ref 12), (2, .int (i32 v2)), (3, .ref 188)] rfl (fun _ => rfl) ?_
    refine P_lv (b := [(0, .ref (obo B v0)), (1, .ref 12), (2, .int (i32 v2)), (3, .ref 188), (4, .ref 45), (5, .ref 22), (6, .int (i32 ((m.2 46) v2))), (7, .int (i32 ((m.2 47) v2))), (8, .int (i32 (cut ((cut (((m.2 47) v2) * 64)) + y22)))), (9, .long (i64 y19.1))]) rfl rfl ⟨rfl, rfl, rfl, rfl, rfl, rfl, rfl, rfl, rfl, rfl, trivial⟩ ?_
    exact dg_op_doDeed_b71_88 B w c N D bb v0 v2 ((m.2 46) v2) (cut ((cut (((m.2 47) v2) * 64)) + y22)) q0 q2 (kE_i (KCn_a hm.1 46) rfl _) cut_r y19.2 n21 (jk [(7, (m.2 47) v2), (9, y19.1)])
end X55DB
