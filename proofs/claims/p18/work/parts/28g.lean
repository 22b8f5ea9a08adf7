noncomputable section X28G
def cs_fm_suffixes_2 (s : Int × mR) : Prop := R32 s.1 ∧ KCn s.2
def cx_fm_suffixes_2 : (Sum (mR) (Int × mR)) → Prop := (sel (fun (e : mR) => KCn e) (fun (e : Int × mR) => False))
def hd_fm_suffixes_2 (c : Nat → Option am_C) (N : Nat) (s : Int × mR) (j : Nat → Int) : ag_St af_T := (2, [(0, .ref 181), (1, .int (i32 s.1)), (2, .int (i32 (j 2))), (3, .int (i32 (j 3))), (4, .int (i32 (j 4))), (5, .long (i64 (j 5))), (7, .long (i64 (j 7))), (9, .int (i32 (j 9)))], [], (khp s.2 c, N), 0, 0)
def ex_fm_suffixes_2 (c : Nat → Option am_C) (N : Nat) : (Sum (mR) (Int × mR)) → (Nat → Int) → ag_St af_T := (sel (fun (e : mR) (j : Nat → Int) => ((293, [(0, .ref 181), (1, .int (i32 (j 1))), (2, .int (i32 (j 2))), (3, .int (i32 (j 3))), (4, .int (i32 (j 4))), (5, .long (i64 (j 5))), (7, .long (i64 (j 7))), (9, .int (i32 (j 9)))], [], (khp e c, N), 0, 0) : ag_St af_T)) (fun (e : Int × mR) (j : Nat → Int) => ((0, [], [], (khp e.2 c, N), 0, 0) : ag_St af_T)))
def tx_fm_suffixes_2 (c : Nat → Option am_C) (N : Nat) : (Sum (mR) (Int × mR)) → ag_Re af_T → Prop := (sel (fun (_ : mR) (_ : ag_Re af_T) => False) (fun (e : Int × mR) (r : ag_Re af_T) => ∃ x : Nat, e.1 = x + 1 ∧ KCn e.2 ∧ r = (.inr x, (khp e.2 c, N), 1, 6)))
def kfl_fm_suffixes_287 (v1 : Int) (m : mR) : Option (Sum (Int × mR) (Sum (mR) (Int × mR))) :=
  some (.inl (cut (v1 + 1), m))
theorem dg_fm_suffixes_287 (w : wX) (c : Nat → Option am_C) (N D : Nat) (bb : Nat) (v1 : Int) (q1 : R32 v1) (m : mR) (hm : KCn m) (j : Nat → Int) (Q2 : Sum (Int × mR) (Sum (mR) (Int × mR)) → ag_Re af_T → Prop) (H1 : ∀ s j, cs_fm_suffixes_2 s → PP bb w D pm_102 (hd_fm_suffixes_2 c N s j) (Q2 (.inl s))) (H2 : ∀ x j, cx_fm_suffixes_2 x → PP bb w D pm_102 (ex_fm_suffixes_2 c N x j) (Q2 (.inr x))) (H3 : ∀ x r, tx_fm_suffixes_2 c N x r → Q2 (.inr x) r) : PP bb w D pm_102 (287, [(0, .ref 181), (1, .int (i32 v1)), (2, .int (i32 (j 2))), (3, .int (i32 (j 3))), (4, .int (i32 (j 4))), (5, .long (i64 (j 5))), (7, .long (i64 (j 7))), (9, .int (i32 (j 9)))], [], (khp m c, N), 0, 0) (QS Q2 (kfl_fm_suffixes_287 v1 m)) := by
  unfold kfl_fm_suffixes_287
  show PP bb w D pm_102 (287, [(0, .ref 181), (1, .int (i32 v1)), (2, .int (i32 (j 2))), (3, .int (i32 (j 3))), (4, .int (i32 (j 4))), (5, .long (i64 (j 5))), (7, .long (i64 (j 7))), (9, .int (i32 (j 9)))], [], (khp (mO m [] []) c, N), 0, 0) _
  refine P_inc 290 [(1, .int (i32 (cut (v1 + 1)))), (0, .ref 181), (2, .int (i32 (j 2))), (3, .int (i32 (j 3))), (4, .int (i32 (j 4))), (5, .long (i64 (j 5))), (7, .long (i64 (j 7))), (9, .int (i32 (j 9)))] rfl rfl (by decide) rfl rfl ?_
  refine P_goto 2 rfl (fun _ => rfl) ?_
  refine P_some ?_
  refine P_lv (b := [(0, .ref 181), (1, .int (i32 (cut (v1 + 1)))), (2, .int (i32 (j 2))), (3, .int (i32 (j 3))), (4, .int (i32 (j 4))), (5, .long (i64 (j 5))), (7, .long (i64 (j 7))), (9, .int (i32 (j 9)))]) rfl rfl ⟨rfl, rfl, rfl, rfl, rfl, rfl, rfl, rfl, trivial⟩ ?_
  exact H1 (cut (v1 + 1), m) (jk [(2, j 2), (3, j 3), (4, j 4), (5, j 5), (7, j 7), (9, j 9)]) ⟨cut_r, hm⟩
def kfl_fm_suffixes_239 (v1 : Int) (v2 : Int) (v5 : Int) (v7 : Int) (m : mR) : Option (Sum (Int × mR) (Sum (mR) (Int × mR))) :=
  bnd (kf_tx_expect 93 m) fun y2 =>
  if y2.1 = 0 then
    bnd (kf_fm_add 402 v2 (cut v7) (cut ((cut (cutl (v5 - v7))) + 1)) ((y2.2.2.2 23) v2) (mO y2.2.2 [(229, cut ((y2.2.2.1 229) - 1))] [])) fun y5 =>
    kfl_fm_suffixes_287 v1 y5.2
  else
    some (.inr (.inr (y2.1, y2.2.2)))
theorem dg_fm_suffixes_239 (w : wX) (c : Nat → Option am_C) (N D : Nat) (bb : Nat) (v1 : Int) (v2 : Int) (v5 : Int) (v7 : Int) (q1 : R32 v1) (q2 : R32 v2) (q5 : R64 v5) (q7 : R64 v7) (m : mR) (hm : KCn m) (j : Nat → Int) (Q2 : Sum (Int × mR) (Sum (mR) (Int × mR)) → ag_Re af_T → Prop) (H1 : ∀ s j, cs_fm_suffixes_2 s → PP bb w D pm_102 (hd_fm_suffixes_2 c N s j) (Q2 (.inl s))) (H2 : ∀ x j, cx_fm_suffixes_2 x → PP bb w D pm_102 (ex_fm_suffixes_2 c N x j) (Q2 (.inr x))) (H3 : ∀ x r, tx_fm_suffixes_2 c N x r → Q2 (.inr x) r) : PP bb w D pm_102 (239, [(0, .ref 181), (1, .int (i32 v1)), (2, .int (i32 v2)), (3, .int (i32 (j 3))), (4, .int (i32 (j 4))), (5, .long (i64 v5)), (7, .long (i64 v7)), (9, .int (i32 (j 9)))], [], (khp m c, N), 0, 0) (QS Q2 (kfl_fm_suffixes_239 v1 v2 v5 v7 m)) := by
  unfold kfl_fm_suffixes_239
  show PP bb w D pm_102 (239, [(0, .ref 181), (1, .int (i32 v1)), (2, .int (i32 v2)), (3, .int (i32 (j 3))), (4, .int (i32 (j 4))), (5, .long (i64 v5)), (7, .long (i64 v7)), (9, .int (i32 (j 9)))], [], (khp (mO m [] []) c, N), 0, 0) _
  refine P_ld 240 (.ref 181) rfl (fun _ => rfl) ?_
  refine PK_gf 243 (.ref 6) rfl rfl kd_181 rfl rfl rfl ?_
  refine P_ld 245 (.int (i32 93)) rfl (fun _ => rfl) ?_
  refine P_cx0 248 78 [.ref 6, .int (i32 93)] [] rfl (fun _ => rfl) rfl rfl (D_tx_expect w m c N D hm 93 (l32 93 rfl)) (fun y x hm e => ⟨_, rfl, H3 _ _ ⟨x, e, hm, rfl⟩⟩) (fun y2 n4 => ?_)
  refine P_ld 249 (.ref 181) rfl (fun _ => rfl) ?_
  refine P_ld 250 (.ref 181) rfl (fun _ => rfl) ?_
  refine PK_gf 253 (.int (i32 (y2.2.2.1 229))) rfl rfl kd_181 rfl rfl rfl ?_
  refine P_ld 254 (.int (i32 1)) rfl (fun _ => rfl) ?_
  refine P_op 255 (cut ((y2.2.2.1 229) - 1)) _ rfl (fun _ => rfl) o_sub ?_
  refine PK_pf (l' := [(229, cut ((y2.2.2.1 229) - 1))]) 258 (cut ((y2.2.2.1 229) - 1)) rfl rfl kd_181 rfl rfl rfl rfl rfl rfl rfl ?_
  refine P_ld 259 (.ref 181) rfl (fun _ => rfl) ?_
  refine P_ld 262 (.int (i32 402)) rfl (fun _ => rfl) ?_
  refine P_ld 263 (.int (i32 v2)) rfl (fun _ => rfl) ?_
  refine P_ld 265 (.long (i64 v7)) rfl (fun _ => rfl) ?_
  refine P_op 266 (cut v7) _ rfl (fun _ => rfl) o_l2i ?_
  refine P_ld 268 (.long (i64 v5)) rfl (fun _ => rfl) ?_
  refine P_ld 270 (.long (i64 v7)) rfl (fun _ => rfl) ?_
  refine P_opl 271 (cutl (v5 - v7)) _ rfl (fun _ => rfl) p_sub ?_
  refine P_op 272 (cut (cutl (v5 - v7))) _ rfl (fun _ => rfl) o_l2i ?_
  refine P_ld 273 (.int (i32 1)) rfl (fun _ => rfl) ?_
  refine P_op 274 (cut ((cut (cutl (v5 - v7))) + 1)) _ rfl (fun _ => rfl) o_add ?_
  refine P_ld 275 (.ref 181) rfl (fun _ => rfl) ?_
  refine PK_gf 278 (.ref 22) rfl rfl kd_181 rfl rfl rfl ?_
  refine PK_gf 281 (.ref 28) rfl rfl kd_22 rfl rfl rfl ?_
  refine P_ld 282 (.int (i32 v2)) rfl (fun _ => rfl) ?_
  refine PK_iald2 283 23 (y2.2.2.2 23) rfl rfl rfl q2 rfl ?_
  refine P_ck1 286 97 [.ref 181, .int (i32 402), .int (i32 v2), .int (i32 (cut v7)), .int (i32 (cut ((cut (cutl (v5 - v7))) + 1))), .int (i32 ((y2.2.2.2 23) v2))] [] rfl (fun _ => rfl) rfl (D_fm_add w (mO y2.2.2 [(229, cut ((y2.2.2.1 229) - 1))] []) c N D (KCn_mO n4 rfl rfl ⟨(kV_i rfl cut_r), trivial⟩ trivial) 402 v2 (cut v7) (cut ((cut (cutl (v5 - v7))) + 1)) ((y2.2.2.2 23) v2) (l32 402 rfl) q2 cut_r cut_r (kE_i (KCn_a n4 23) rfl _)) (fun y5 h6 n7 => ?_)
  refine P_pop 287 rfl (fun _ => rfl) ?_
  exact dg_fm_suffixes_287 w c N D bb v1 q1 y5.2 n7 (jk [(2, v2), (3, j 3), (4, j 4), (5, v5), (7, v7), (9, j 9)]) Q2 H1 H2 H3
def kfl_fm_suffixes_221 (v1 : Int) (v2 : Int) (v4 : Int) (v5 : Int) (v7 : Int) (u0 : Int) (m : mR) : Option (Sum (Int × mR) (Sum (mR) (Int × mR))) :=
  if u0 = 0 then
    bnd (kf_tx_fail 7 v4 m) fun y9 =>
    if y9.1 = 0 then
      kfl_fm_suffixes_239 v1 v2 v5 v7 y9.2.2
    else
      some (.inr (.inr (y9.1, y9.2.2)))
  else
    kfl_fm_suffixes_239 v1 v2 v5 v7 m
theorem dg_fm_suffixes_221 (w : wX) (c : Nat → Option am_C) (N D : Nat) (bb : Nat) (v1 : Int) (v2 : Int) (v4 : Int) (v5 : Int) (v7 : Int) (u0 : Int) (q1 : R32 v1) (q2 : R32 v2) (q4 : R32 v4) (q5 : R64 v5) (q7 : R64 v7) (r0 : R32 u0) (m : mR) (hm : KCn m) (j : Nat → Int) (Q2 : Sum (Int × mR) (Sum (mR) (Int × mR)) → ag_Re af_T → Prop) (H1 : ∀ s j, cs_fm_suffixes_2 s → PP bb w D pm_102 (hd_fm_suffixes_2 c N s j) (Q2 (.inl s))) (H2 : ∀ x j, cx_fm_suffixes_2 x → PP bb w D pm_102 (ex_fm_suffixes_2 c N x j) (Q2 (.inr x))) (H3 : ∀ x r, tx_fm_suffixes_2 c N x r → Q2 (.inr x) r) : PP bb w D pm_102 (221, [(0, .ref 181), (1, .int (i32 v1)), (2, .int (i32 v2)), (3, .int (i32 (j 3))), (4, .int (i32 v4)), (5, .long (i64 v5)), (7, .long (i64 v7)), (9, .int (i32 (j 9)))], [.int (i32 u0)], (khp m c, N), 0, 0) (QS Q2 (kfl_fm_suffixes_221 v1 v2 v4 v5 v7 u0 m)) := by
  unfold kfl_fm_suffixes_221
  show PP bb w D pm_102 (221, [(0, .ref 181), (1, .int (i32 v1)), (2, .int (i32 v2)), (3, .int (i32 (j 3))), (4, .int (i32 v4)), (5, .long (i64 v5)), (7, .long (i64 v7)), (9, .int (i32 (j 9)))], [.int (i32 u0)], (khp (mO m [] []) c, N), 0, 0) _
  refine P_sto 223 [(9, .int (i32 u0)), (0, .ref 181), (1, .int (i32 v1)), (2, .int (i32 v2)), (3, .int (i32 (j 3))), (4, .int (i32 v4)), (5, .long (i64 v5)), (7, .long (i64 v7))] rfl (fun _ => rfl) ?_
  refine P_ld 225 (.int (i32 u0)) rfl (fun _ => rfl) ?_
  refine P_ifE 239 228 rfl rfl rfl r0 rfl (fun h8 => ?_) (fun h8 => ?_)
  · skip
    refine P_ld 229 (.ref 181) rfl (fun _ => rfl) ?_
    refine PK_gf 232 (.ref 6) rfl rfl kd_181 rfl rfl rfl ?_
    refine P_ld 234 (.int (i32 7)) rfl (fun _ => rfl) ?_
    refine P_ld 236 (.int (i32 v4)) rfl (fun _ => rfl) ?_
    refine P_cx0 239 51 [.ref 6, .int (i32 7), .int (i32 v4)] [] rfl (fun _ => rfl) rfl rfl (D_tx_fail w m c N D hm 7 v4 (l32 7 rfl) q4) (fun y x hm e => ⟨_, rfl, H3 _ _ ⟨x, e, hm, rfl⟩⟩) (fun y9 n11 => ?_)
    refine P_lv (b := [(0, .ref 181), (1, .int (i32 v1)), (2, .int (i32 v2)), (3, .int (i32 (j 3))), (4, .int (i32 v4)), (5, .long (i64 v5)), (7, .long (i64 v7)), (9, .int (i32 u0))]) rfl rfl ⟨rfl, rfl, rfl, rfl, rfl, rfl, rfl, rfl, trivial⟩ ?_
    exact dg_fm_suffixes_239 w c N D bb v1 v2 v5 v7 q1 q2 q5 q7 y9.2.2 n11 (jk [(3, j 3), (4, v4), (9, u0)]) Q2 H1 H2 H3
  · skip
    refine P_lv (b := [(0, .ref 181), (1, .int (i32 v1)), (2, .int (i32 v2)), (3, .int (i32 (j 3))), (4, .int (i32 v4)), (5, .long (i64 v5)), (7, .long (i64 v7)), (9, .int (i32 u0))]) rfl rfl ⟨rfl, rfl, rfl, rfl, rfl, rfl, rfl, rfl, trivial⟩ ?_
    exact dg_fm_suffixes_239 w c N D bb v1 v2 v5 v7 q1 q2 q5 q7 m hm (jk [(3, j 3), (4, v4), (9, u0)]) Q2 H1 H2 H3
def kfl_fm_suffixes_220 (v1 : Int) (v2 : Int) (v4 : Int) (v5 : Int) (v7 : Int) (m : mR) : Option (Sum (Int × mR) (Sum (mR) (Int × mR))) :=
  kfl_fm_suffixes_221 v1 v2 v4 v5 v7 0 m
theorem dg_fm_suffixes_220 (w : wX) (c : Nat → Option am_C) (N D : Nat) (bb : Nat) (v1 : Int) (v2 : Int) (v4 : Int) (v5 : Int) (v7 : Int) (q1 : R32 v1) (q2 : R32 v2) (q4 : R32 v4) (q5 : R64 v5) (q7 : R64 v7) (m : mR) (hm : KCn m) (j : Nat → Int) (Q2 : Sum (Int × mR) (Sum (mR) (Int × mR)) → ag_Re af_T → Prop) (H1 : ∀ s j, cs_fm_suffixes_2 s → PP bb w D pm_102 (hd_fm_suffixes_2 c N s j) (Q2 (.inl s))) (H2 : ∀ x j, cx_fm_suffixes_2 x → PP bb w D pm_102 (ex_fm_suffixes_2 c N x j) (Q2 (.inr x))) (H3 : ∀ x r, tx_fm_suffixes_2 c N x r → Q2 (.inr x) r) : PP bb w D pm_102 (220, [(0, .ref 181), (1, .int (i32 v1)), (2, .int (i32 v2)), (3, .int (i32 (j 3))), (4, .int (i32 v4)), (5, .long (i64 v5)), (7, .long (i64 v7)), (9, .int (i32 (j 9)))], [], (khp m c, N), 0, 0) (QS Q2 (kfl_fm_suffixes_220 v1 v2 v4 v5 v7 m)) := by
  unfold kfl_fm_suffixes_220
  show PP bb w D pm_102 (220, [(0, .ref 181), (1, .int (i32 v1)), (2, .int (i32 v2)), (3, .int (i32 (j 3))), (4, .int (i32 v4)), (5, .long (i64 v5)), (7, .long (i64 v7)), (9, .int (i32 (j 9)))], [], (khp (mO m [] []) c, N), 0, 0) _
  refine P_ld 221 (.int (i32 0)) rfl (fun _ => rfl) ?_
  exact dg_fm_suffixes_221 w c N D bb v1 v2 v4 v5 v7 0 q1 q2 q4 q5 q7 (l32 0 rfl) m hm (jk [(3, j 3), (9, j 9)]) Q2 H1 H2 H3
def kfl_fm_suffixes_64 (v1 : Int) (v2 : Int) (u0 : Int) (m : mR) : Option (Sum (Int × mR) (Sum (mR) (Int × mR))) :=
  bnd (kf_tx_advance m) fun y12 =>
  if y12.1 = 0 then
    if u0 = 0 then
      bnd (kf_tx_expect 257 y12.2.2) fun y16 =>
      if y16.1 = 0 then
        bnd (kf_tx_expect 58 y16.2.2) fun y19 =>
        if y19.1 = 0 then
          bnd (kf_tx_expect 257 y19.2.2) fun y22 =>
          if y22.1 = 0 then
            if cmp64 (y12.2.2.1 208) 0 < 0 then
              kfl_fm_suffixes_220 v1 v2 (y12.2.2.1 207) (y12.2.2.1 208) (y19.2.2.1 208) y22.2.2
            else
              if (0 : Int) ≤ cmp64 (y12.2.2.1 208) ((y22.2.2.2 22) v2) then
                kfl_fm_suffixes_220 v1 v2 (y12.2.2.1 207) (y12.2.2.1 208) (y19.2.2.1 208) y22.2.2
              else
                if cmp64 (y19.2.2.1 208) 0 < 0 then
                  kfl_fm_suffixes_220 v1 v2 (y12.2.2.1 207) (y12.2.2.1 208) (y19.2.2.1 208) y22.2.2
                else
                  if (0 : Int) < cmp64 (y19.2.2.1 208) (y12.2.2.1 208) then
                    kfl_fm_suffixes_220 v1 v2 (y12.2.2.1 207) (y12.2.2.1 208) (y19.2.2.1 208) y22.2.2
                  else
                    kfl_fm_suffixes_221 v1 v2 (y12.2.2.1 207) (y12.2.2.1 208) (y19.2.2.1 208) 1 y22.2.2
          else
            some (.inr (.inr (y22.1, y22.2.2)))
        else
          some (.inr (.inr (y19.1, y19.2.2)))
      else
        some (.inr (.inr (y16.1, y16.2.2)))
    else
      bnd (kf_tx_within 1 64 y12.2.2) fun y29 =>
      if y29.1 = 0 then
        bnd (kf_fm_add 403 v2 0 y29.2.1 ((y29.2.2.2 23) v2) (mO y29.2.2 [(229, cut ((y29.2.2.1 229) - 1))] [])) fun y32 =>
        kfl_fm_suffixes_287 v1 y32.2
      else
        some (.inr (.inr (y29.1, y29.2.2)))
  else
    some (.inr (.inr (y12.1, y12.2.2)))
theorem dg_fm_suffixes_64 (w : wX) (c : Nat → Option am_C) (N D : Nat) (bb : Nat) (v1 : Int) (v2 : Int) (u0 : Int) (q1 : R32 v1) (q2 : R32 v2) (r0 : R32 u0) (m : mR) (hm : KCn m) (j : Nat → Int) (Q2 : Sum (Int × mR) (Sum (mR) (Int × mR)) → ag_Re af_T → Prop) (H1 : ∀ s j, cs_fm_suffixes_2 s → PP bb w D pm_102 (hd_fm_suffixes_2 c N s j) (Q2 (.inl s))) (H2 : ∀ x j, cx_fm_suffixes_2 x → PP bb w D pm_102 (ex_fm_suffixes_2 c N x j) (Q2 (.inr x))) (H3 : ∀ x r, tx_fm_suffixes_2 c N x r → Q2 (.inr x) r) : PP bb w D pm_102 (64, [(0, .ref 181), (1, .int (i32 v1)), (2, .int (i32 v2)), (3, .int (i32 (j 3))), (4, .int (i32 (j 4))), (5, .long (i64 (j 5))), (7, .long (i64 (j 7))), (9, .int (i32 (j 9)))], [.int (i32 u0)], (khp m c, N), 0, 0) (QS Q2 (kfl_fm_suffixes_64 v1 v2 u0 m)) := by
  unfold kfl_fm_suffixes_64
  show PP bb w D pm_102 (64, [(0, .ref 181), (1, .int (i32 v1)), (2, .int (i32 v2)), (3, .int (i32 (j 3))), (4, .int (i32 (j 4))), (5, .long (i64 (j 5))), (7, .long (i64 (j 7))), (9, .int (i32 (j 9)))], [.int (i32 u0)], (khp (mO m [] []) c, N), 0, 0) _
  refine P_sto 65 [(3, .int (i32 u0)), (0, .ref 181), (1, .int (i32 v1)), (2, .int (i32 v2)), (4, .int (i32 (j 4))), (5, .long (i64 (j 5))), (7, .long (i64 (j 7))), (9, .int (i32 (j 9)))] rfl (fun _ => rfl) ?_
  refine P_ld 66 (.ref 181) rfl (fun _ => rfl) ?_
  refine PK_gf 69 (.ref 6) rfl rfl kd_181 rfl rfl rfl ?_
  refine P_cx0 72 50 [.ref 6] [] rfl (fun _ => rfl) rfl rfl (D_tx_advance w m c N D hm) (fun y x hm e => ⟨_, rfl, H3 _ _ ⟨x, e, hm, rfl⟩⟩) (fun y12 n14 => ?_)
  refine P_ld 73 (.int (i32 u0)) rfl (fun _ => rfl) ?_
  refine P_ifF 122 76 rfl rfl rfl r0 rfl (fun h15 => ?_) (fun h15 => ?_)
  · skip
    refine P_ld 123 (.ref 181) rfl (fun _ => rfl) ?_
    refine PK_gf 126 (.ref 6) rfl rfl kd_181 rfl rfl rfl ?_
    refine PK_gf 129 (.int (i32 (y12.2.2.1 207))) rfl rfl kd_6 rfl rfl rfl ?_
    refine P_sto 131 [(4, .int (i32 (y12.2.2.1 207))), (3, .int (i32 u0)), (0, .ref 181), (1, .int (i32 v1)), (2, .int (i32 v2)), (5, .long (i64 (j 5))), (7, .long (i64 (j 7))), (9, .int (i32 (j 9)))] rfl (fun _ => rfl) ?_
    refine P_ld 132 (.ref 181) rfl (fun _ => rfl) ?_
    refine PK_gf 135 (.ref 6) rfl rfl kd_181 rfl rfl rfl ?_
    refine PK_gf 138 (.long (i64 (y12.2.2.1 208))) rfl rfl kd_6 rfl rfl rfl ?_
    refine P_sto 140 [(5, .long (i64 (y12.2.2.1 208))), (4, .int (i32 (y12.2.2.1 207))), (3, .int (i32 u0)), (0, .ref 181), (1, .int (i32 v1)), (2, .int (i32 v2)), (7, .long (i64 (j 7))), (9, .int (i32 (j 9)))] rfl (fun _ => rfl) ?_
    refine P_ld 141 (.ref 181) rfl (fun _ => rfl) ?_
    refine PK_gf 144 (.ref 6) rfl rfl kd_181 rfl rfl rfl ?_
    refine P_ld 147 (.int (i32 257)) rfl (fun _ => rfl) ?_
    refine P_cx0 150 78 [.ref 6, .int (i32 257)] [] rfl (fun _ => rfl) rfl rfl (D_tx_expect w y12.2.2 c N D n14 257 (l32 257 rfl)) (fun y x hm e => ⟨_, rfl, H3 _ _ ⟨x, e, hm, rfl⟩⟩) (fun y16 n18 => ?_)
    refine P_ld 151 (.ref 181) rfl (fun _ => rfl) ?_
    refine PK_gf 154 (.ref 6) rfl rfl kd_181 rfl rfl rfl ?_
    refine P_ld 156 (.int (i32 58)) rfl (fun _ => rfl) ?_
    refine P_cx0 159 78 [.ref 6, .int (i32 58)] [] rfl (fun _ => rfl) rfl rfl (D_tx_expect w y16.2.2 c N D n18 58 (l32 58 rfl)) (fun y x hm e => ⟨_, rfl, H3 _ _ ⟨x, e, hm, rfl⟩⟩) (fun y19 n21 => ?_)
    refine P_ld 160 (.ref 181) rfl (fun _ => rfl) ?_
    refine PK_gf 163 (.ref 6) rfl rfl kd_181 rfl rfl rfl ?_
    refine PK_gf 166 (.long (i64 (y19.2.2.1 208))) rfl rfl kd_6 rfl rfl rfl ?_
    refine P_sto 168 [(7, .long (i64 (y19.2.2.1 208))), (5, .long (i64 (y12.2.2.1 208))), (4, .int (i32 (y12.2.2.1 207))), (3, .int (i32 u0)), (0, .ref 181), (1, .int (i32 v1)), (2, .int (i32 v2)), (9, .int (i32 (j 9)))] rfl (fun _ => rfl) ?_
    refine P_ld 169 (.ref 181) rfl (fun _ => rfl) ?_
    refine PK_gf 172 (.ref 6) rfl rfl kd_181 rfl rfl rfl ?_
    refine P_ld 175 (.int (i32 257)) rfl (fun _ => rfl) ?_
    refine P_cx0 178 78 [.ref 6, .int (i32 257)] [] rfl (fun _ => rfl) rfl rfl (D_tx_expect w y19.2.2 c N D n21 257 (l32 257 rfl)) (fun y x hm e => ⟨_, rfl, H3 _ _ ⟨x, e, hm, rfl⟩⟩) (fun y22 n24 => ?_)
    refine P_ld 180 (.long (i64 (y12.2.2.1 208))) rfl (fun _ => rfl) ?_
    refine P_ld 181 (.long (i64 0)) rfl (fun _ => rfl) ?_
    refine P_op 182 (cmp64 (y12.2.2.1 208) 0) _ rfl (fun _ => rfl) (o_cmp (KCn_l n14 208 rfl) (l64 0 rfl)) ?_
    refine P_ifF 220 185 rfl rfl rfl cmp64_r rfl (fun h25 => ?_) (fun h25 => ?_)
    · skip
      refine P_lv (b := [(0, .ref 181), (1, .int (i32 v1)), (2, .int (i32 v2)), (3, .int (i32 u0)), (4, .int (i32 (y12.2.2.1 207))), (5, .long (i64 (y12.2.2.1 208))), (7, .long (i64 (y19.2.2.1 208))), (9, .int (i32 (j 9)))]) rfl rfl ⟨rfl, rfl, rfl, rfl, rfl, rfl, rfl, rfl, trivial⟩ ?_
      exact dg_fm_suffixes_220 w c N D bb v1 v2 (y12.2.2.1 207) (y12.2.2.1 208) (y19.2.2.1 208) q1 q2 (KCn_i n14 207 rfl) (KCn_l n14 208 rfl) (KCn_l n21 208 rfl) y22.2.2 n24 (jk [(3, u0), (9, j 9)]) Q2 H1 H2 H3
    · skip
      refine P_ld 187 (.long (i64 (y12.2.2.1 208))) rfl (fun _ => rfl) ?_
      refine P_ld 188 (.ref 181) rfl (fun _ => rfl) ?_
      refine PK_gf 191 (.ref 22) rfl rfl kd_181 rfl rfl rfl ?_
      refine PK_gf 194 (.ref 27) rfl rfl kd_22 rfl rfl rfl ?_
      refine P_ld 195 (.int (i32 v2)) rfl (fun _ => rfl) ?_
      refine PK_iald2 196 22 (y22.2.2.2 22) rfl rfl rfl q2 rfl ?_
      refine P_opl 197 ((y22.2.2.2 22) v2) _ rfl (fun _ => rfl) (o_i2l (kE_i (KCn_a n24 22) rfl _)) ?_
      refine P_op 198 (cmp64 (y12.2.2.1 208) ((y22.2.2.2 22) v2)) _ rfl (fun _ => rfl) (o_cmp (KCn_l n14 208 rfl) (R32_64 (kE_i (KCn_a n24 22) rfl _))) ?_
      refine P_ifF 220 201 rfl rfl rfl cmp64_r rfl (fun h26 => ?_) (fun h26 => ?_)
      · skip
        refine P_lv (b := [(0, .ref 181), (1, .int (i32 v1)), (2, .int (i32 v2)), (3, .int (i32 u0)), (4, .int (i32 (y12.2.2.1 207))), (5, .long (i64 (y12.2.2.1 208))), (7, .long (i64 (y19.2.2.1 208))), (9, .int (i32 (j 9)))]) rfl rfl ⟨rfl, rfl, rfl, rfl, rfl, rfl, rfl, rfl, trivial⟩ ?_
        exact dg_fm_suffixes_220 w c N D bb v1 v2 (y12.2.2.1 207) (y12.2.2.1 208) (y19.2.2.1 208) q1 q2 (KCn_i n14 207 rfl) (KCn_l n14 208 rfl) (KCn_l n21 208 rfl) y22.2.2 n24 (jk [(3, u0), (9, j 9)]) Q2 H1 H2 H3
      · skip
        refine P_ld 203 (.long (i64 (y19.2.2.1 208))) rfl (fun _ => rfl) ?_
        refine P_ld 204 (.long (i64 0)) rfl (fun _ => rfl) ?_
        refine P_op 205 (cmp64 (y19.2.2.1 208) 0) _ rfl (fun _ => rfl) (o_cmp (KCn_l n21 208 rfl) (l64 0 rfl)) ?_
        refine P_ifF 220 208 rfl rfl rfl cmp64_r rfl (fun h27 => ?_) (fun h27 => ?_)
        · skip
          refine P_lv (b := [(0, .ref 181), (1, .int (i32 v1)), (2, .int (i32 v2)), (3, .int (i32 u0)), (4, .int (i32 (y12.2.2.1 207))), (5, .long (i64 (y12.2.2.1 208))), (7, .long (i64 (y19.2.2.1 208))), (9, .int (i32 (j 9)))]) rfl rfl ⟨rfl, rfl, rfl, rfl, rfl, rfl, rfl, rfl, trivial⟩ ?_
          exact dg_fm_suffixes_220 w c N D bb v1 v2 (y12.2.2.1 207) (y12.2.2.1 208) (y19.2.2.1 208) q1 q2 (KCn_i n14 207 rfl) (KCn_l n14 208 rfl) (KCn_l n21 208 rfl) y22.2.2 n24 (jk [(3, u0), (9, j 9)]) Q2 H1 H2 H3
        · skip
          refine P_ld 210 (.long (i64 (y19.2.2.1 208))) rfl (fun _ => rfl) ?_
          refine P_ld 212 (.long (i64 (y12.2.2.1 208))) rfl (fun _ => rfl) ?_
          refine P_op 213 (cmp64 (y19.2.2.1 208) (y12.2.2.1 208)) _ rfl (fun _ => rfl) (o_cmp (KCn_l n21 208 rfl) (KCn_l n14 208 rfl)) ?_
          refine P_ifF 220 216 rfl rfl rfl cmp64_r rfl (fun h28 => ?_) (fun h28 => ?_)
          · skip
            refine P_lv (b := [(0, .ref 181), (1, .int (i32 v1)), (2, .int (i32 v2)), (3, .int (i32 u0)), (4, .int (i32 (y12.2.2.1 207))), (5, .long (i64 (y12.2.2.1 208))), (7, .long (i64 (y19.2.2.1 208))), (9, .int (i32 (j 9)))]) rfl rfl ⟨rfl, rfl, rfl, rfl, rfl, rfl, rfl, rfl, trivial⟩ ?_
            exact dg_fm_suffixes_220 w c N D bb v1 v2 (y12.2.2.1 207) (y12.2.2.1 208) (y19.2.2.1 208) q1 q2 (KCn_i n14 207 rfl) (KCn_l n14 208 rfl) (KCn_l n21 208 rfl) y22.2.2 n24 (jk [(3, u0), (9, j 9)]) Q2 H1 H2 H3
          · skip
            refine P_ld 217 (.int (i32 1)) rfl (fun _ => rfl) ?_
            refine P_goto 221 rfl (fun _ => rfl) ?_
            refine P_lv (b := [(0, .ref 181), (1, .int (i32 v1)), (2, .int (i32 v2)), (3, .int (i32 u0)), (4, .int (i32 (y12.2.2.1 207))), (5, .long (i64 (y12.2.2.1 208))), (7, .long (i64 (y19.2.2.1 208))), (9, .int (i32 (j 9)))]) rfl rfl ⟨rfl, rfl, rfl, rfl, rfl, rfl, rfl, rfl, trivial⟩ ?_
            exact dg_fm_suffixes_221 w c N D bb v1 v2 (y12.2.2.1 207) (y12.2.2.1 208) (y19.2.2.1 208) 1 q1 q2 (KCn_i n14 207 rfl) (KCn_l n14 208 rfl) (KCn_l n21 208 rfl) (l32 1 rfl) y22.2.2 n24 (jk [(3, u0), (9, j 9)]) Q2 H1 H2 H3
  · skip
    refine P_ld 77 (.ref 181) rfl (fun _ => rfl) ?_
    refine PK_gf 80 (.ref 6) rfl rfl kd_181 rfl rfl rfl ?_
    refine P_ld 81 (.int (i32 1)) rfl (fun _ => rfl) ?_
    refine P_ld 83 (.int (i32 64)) rfl (fun _ => rfl) ?_
    refine P_cx1 86 81 [.ref 6, .int (i32 1), .int (i32 64)] [] rfl (fun _ => rfl) rfl rfl (D_tx_within w y12.2.2 c N D n14 1 64 (l32 1 rfl) (l32 64 rfl)) (fun y x hm e => ⟨_, rfl, H3 _ _ ⟨x, e, hm, rfl⟩⟩) (fun y29 h30 n31 => ?_)
    refine P_sto 88 [(4, .int (i32 y29.2.1)), (3, .int (i32 u0)), (0, .ref 181), (1, .int (i32 v1)), (2, .int (i32 v2)), (5, .long (i64 (j 5))), (7, .long (i64 (j 7))), (9, .int (i32 (j 9)))] rfl (fun _ => rfl) ?_
    refine P_ld 89 (.ref 181) rfl (fun _ => rfl) ?_
    refine P_ld 90 (.ref 181) rfl (fun _ => rfl) ?_
    refine PK_gf 93 (.int (i32 (y29.2.2.1 229))) rfl rfl kd_181 rfl rfl rfl ?_
    refine P_ld 94 (.int (i32 1)) rfl (fun _ => rfl) ?_
    refine P_op 95 (cut ((y29.2.2.1 229) - 1)) _ rfl (fun _ => rfl) o_sub ?_
    refine PK_pf (l' := [(229, cut ((y29.2.2.1 229) - 1))]) 98 (cut ((y29.2.2.1 229) - 1)) rfl rfl kd_181 rfl rfl rfl rfl rfl rfl rfl ?_
    refine P_ld 99 (.ref 181) rfl (fun _ => rfl) ?_
    refine P_ld 102 (.int (i32 403)) rfl (fun _ => rfl) ?_
    refine P_ld 103 (.int (i32 v2)) rfl (fun _ => rfl) ?_
    refine P_ld 104 (.int (i32 0)) rfl (fun _ => rfl) ?_
    refine P_ld 106 (.int (i32 y29.2.1)) rfl (fun _ => rfl) ?_
    refine P_ld 107 (.ref 181) rfl (fun _ => rfl) ?_
    refine PK_gf 110 (.ref 22) rfl rfl kd_181 rfl rfl rfl ?_
    refine PK_gf 113 (.ref 28) rfl rfl kd_22 rfl rfl rfl ?_
    refine P_ld 114 (.int (i32 v2)) rfl (fun _ => rfl) ?_
    refine PK_iald2 115 23 (y29.2.2.2 23) rfl rfl rfl q2 rfl ?_
    refine P_ck1 118 97 [.ref 181, .int (i32 403), .int (i32 v2), .int (i32 0), .int (i32 y29.2.1), .int (i32 ((y29.2.2.2 23) v2))] [] rfl (fun _ => rfl) rfl (D_fm_add w (mO y29.2.2 [(229, cut ((y29.2.2.1 229) - 1))] []) c N D (KCn_mO n31 rfl rfl ⟨(kV_i rfl cut_r), trivial⟩ trivial) 403 v2 0 y29.2.1 ((y29.2.2.2 23) v2) (l32 403 rfl) q2 (l32 0 rfl) h30 (kE_i (KCn_a n31 23) rfl _)) (fun y32 h33 n34 => ?_)
    refine P_pop 119 rfl (fun _ => rfl) ?_
    refine P_goto 287 rfl (fun _ => rfl) ?_
    refine P_lv (b := [(0, .ref 181), (1, .int (i32 v1)), (2, .int (i32 v2)), (3, .int (i32 u0)), (4, .int (i32 y29.2.1)), (5, .long (i64 (j 5))), (7, .long (i64 (j 7))), (9, .int (i32 (j 9)))]) rfl rfl ⟨rfl, rfl, rfl, rfl, rfl, rfl, rfl, rfl, trivial⟩ ?_
    exact dg_fm_suffixes_287 w c N D bb v1 q1 y32.2 n34 (jk [(2, v2), (3, u0), (4, y29.2.1), (5, j 5), (7, j 7), (9, j 9)]) Q2 H1 H2 H3
def kfl_fm_suffixes_34 (v1 : Int) (m : mR) : Option (Sum (Int × mR) (Sum (mR) (Int × mR))) :=
  if m.1 206 = 330 then
    kfl_fm_suffixes_64 v1 ((m.2 70) (cut ((m.1 229) - 1))) 1 m
  else
    kfl_fm_suffixes_64 v1 ((m.2 70) (cut ((m.1 229) - 1))) 0 m
theorem dg_fm_suffixes_34 (w : wX) (c : Nat → Option am_C) (N D : Nat) (bb : Nat) (v1 : Int) (q1 : R32 v1) (m : mR) (hm : KCn m) (j : Nat → Int) (Q2 : Sum (Int × mR) (Sum (mR) (Int × mR)) → ag_Re af_T → Prop) (H1 : ∀ s j, cs_fm_suffixes_2 s → PP bb w D pm_102 (hd_fm_suffixes_2 c N s j) (Q2 (.inl s))) (H2 : ∀ x j, cx_fm_suffixes_2 x → PP bb w D pm_102 (ex_fm_suffixes_2 c N x j) (Q2 (.inr x))) (H3 : ∀ x r, tx_fm_suffixes_2 c N x r → Q2 (.inr x) r) : PP bb w D pm_102 (34, [(0, .ref 181), (1, .int (i32 v1)), (2, .int (i32 (j 2))), (3, .int (i32 (j 3))), (4, .int (i32 (j 4))), (5, .long (i64 (j 5))), (7, .long (i64 (j 7))), (9, .int (i32 (j 9)))], [], (khp m c, N), 0, 0) (QS Q2 (kfl_fm_suffixes_34 v1 m)) := by
  unfold kfl_fm_suffixes_34
  show PP bb w D pm_102 (34, [(0, .ref 181), (1, .int (i32 v1)), (2, .int (i32 (j 2))), (3, .int (i32 (j 3))), (4, .int (i32 (j 4))), (5, .long (i64 (j 5))), (7, .long (i64 (j 7))), (9, .int (i32 (j 9)))], [], (khp (mO m [] []) c, N), 0, 0) _
  refine P_ld 35 (.ref 181) rfl (fun _ => rfl) ?_
  refine PK_gf 38 (.ref 184) rfl rfl kd_181 rfl rfl rfl ?_
  refine P_ld 39 (.ref 181) rfl (fun _ => rfl) ?_
  refine PK_gf 42 (.int (i32 (m.1 229))) rfl rfl kd_181 rfl rfl rfl ?_
  refine P_ld 43 (.int (i32 1)) rfl (fun _ => rfl) ?_
  refine P_op 44 (cut ((m.1 229) - 1)) _ rfl (fun _ => rfl) o_sub ?_
  refine PK_iald2 45 70 (m.2 70) rfl rfl rfl cut_r rfl ?_
  refine P_sto 46 [(2, .int (i32 ((m.2 70) (cut ((m.1 229) - 1))))), (0, .ref 181), (1, .int (i32 v1)), (3, .int (i32 (j 3))), (4, .int (i32 (j 4))), (5, .long (i64 (j 5))), (7, .long (i64 (j 7))), (9, .int (i32 (j 9)))] rfl (fun _ => rfl) ?_
  refine P_ld 47 (.ref 181) rfl (fun _ => rfl) ?_
  refine PK_gf 50 (.ref 6) rfl rfl kd_181 rfl rfl rfl ?_
  refine PK_gf 53 (.int (i32 (m.1 206))) rfl rfl kd_6 rfl rfl rfl ?_
  refine P_ld 56 (.int (i32 330)) rfl (fun _ => rfl) ?_
  refine P_icE 63 59 rfl rfl rfl (KCn_i hm 206 rfl) (l32 330 rfl) rfl (fun h35 => ?_) (fun h35 => ?_)
  · skip
    refine P_ld 60 (.int (i32 1)) rfl (fun _ => rfl) ?_
    refine P_goto 64 rfl (fun _ => rfl) ?_
    refine P_lv (b := [(0, .ref 181), (1, .int (i32 v1)), (2, .int (i32 ((m.2 70) (cut ((m.1 229) - 1))))), (3, .int (i32 (j 3))), (4, .int (i32 (j 4))), (5, .long (i64 (j 5))), (7, .long (i64 (j 7))), (9, .int (i32 (j 9)))]) rfl rfl ⟨rfl, rfl, rfl, rfl, rfl, rfl, rfl, rfl, trivial⟩ ?_
    exact dg_fm_suffixes_64 w c N D bb v1 ((m.2 70) (cut ((m.1 229) - 1))) 1 q1 (kE_i (KCn_a hm 70) rfl _) (l32 1 rfl) m hm (jk [(3, j 3), (4, j 4), (5, j 5), (7, j 7), (9, j 9)]) Q2 H1 H2 H3
  · skip
    refine P_ld 64 (.int (i32 0)) rfl (fun _ => rfl) ?_
    refine P_lv (b := [(0, .ref 181), (1, .int (i32 v1)), (2, .int (i32 ((m.2 70) (cut ((m.1 229) - 1))))), (3, .int (i32 (j 3))), (4, .int (i32 (j 4))), (5, .long (i64 (j 5))), (7, .long (i64 (j 7))), (9, .int (i32 (j 9)))]) rfl rfl ⟨rfl, rfl, rfl, rfl, rfl, rfl, rfl, rfl, trivial⟩ ?_
    exact dg_fm_suffixes_64 w c N D bb v1 ((m.2 70) (cut ((m.1 229) - 1))) 0 q1 (kE_i (KCn_a hm 70) rfl _) (l32 0 rfl) m hm (jk [(3, j 3), (4, j 4), (5, j 5), (7, j 7), (9, j 9)]) Q2 H1 H2 H3
def kfb_fm_suffixes_2 (s : Int × mR) : Option (Sum (Int × mR) (Sum (mR) (Int × mR))) :=
  if (4000 : Int) < s.1 then
    some (.inr (.inl s.2))
  else
    if s.2.1 206 = 91 then
      kfl_fm_suffixes_34 s.1 s.2
    else
      if s.2.1 206 = 330 then
        kfl_fm_suffixes_34 s.1 s.2
      else
        some (.inr (.inl s.2))
theorem dh_fm_suffixes_2 (w : wX) (c : Nat → Option am_C) (N D : Nat) (bb : Nat) (Q2 : Sum (Int × mR) (Sum (mR) (Int × mR)) → ag_Re af_T → Prop) (H1 : ∀ s j, cs_fm_suffixes_2 s → PP bb w D pm_102 (hd_fm_suffixes_2 c N s j) (Q2 (.inl s))) (H2 : ∀ x j, cx_fm_suffixes_2 x → PP bb w D pm_102 (ex_fm_suffixes_2 c N x j) (Q2 (.inr x))) (H3 : ∀ x r, tx_fm_suffixes_2 c N x r → Q2 (.inr x) r) (s : Int × mR) (j : Nat → Int) (hs : cs_fm_suffixes_2 s) : PP (bb + 1) w D pm_102 (hd_fm_suffixes_2 c N s j) (QS Q2 (kfb_fm_suffixes_2 s)) := by
  obtain ⟨g1, gm⟩ := hs
  unfold kfb_fm_suffixes_2
  show PP (bb + 1) w D pm_102 (2, [(0, .ref 181), (1, .int (i32 s.1)), (2, .int (i32 (j 2))), (3, .int (i32 (j 3))), (4, .int (i32 (j 4))), (5, .long (i64 (j 5))), (7, .long (i64 (j 7))), (9, .int (i32 (j 9)))], [], (khp (mO s.2 [] []) c, N), 0, 0) _
  refine P1_ld 3 (.int (i32 s.1)) rfl (fun _ => rfl) ?_
  refine P_ld 6 (.int (i32 4000)) rfl (fun _ => rfl) ?_
  refine P_icF 293 9 rfl rfl rfl g1 (l32 4000 rfl) rfl (fun h37 => ?_) (fun h37 => ?_)
  · skip
    refine P_some ?_
    exact H2 (.inl s.2) (jk [(1, s.1), (2, j 2), (3, j 3), (4, j 4), (5, j 5), (7, j 7), (9, j 9)]) gm
  · skip
    refine P_ld 10 (.ref 181) rfl (fun _ => rfl) ?_
    refine PK_gf 13 (.ref 6) rfl rfl kd_181 rfl rfl rfl ?_
    refine PK_gf 16 (.int (i32 (s.2.1 206))) rfl rfl kd_6 rfl rfl rfl ?_
    refine P_ld 18 (.int (i32 91)) rfl (fun _ => rfl) ?_
    refine P_icF 34 21 rfl rfl rfl (KCn_i gm 206 rfl) (l32 91 rfl) rfl (fun h38 => ?_) (fun h38 => ?_)
    · skip
      exact dg_fm_suffixes_34 w c N D bb s.1 g1 s.2 gm (jk [(2, j 2), (3, j 3), (4, j 4), (5, j 5), (7, j 7), (9, j 9)]) Q2 H1 H2 H3
    · skip
      refine P_ld 22 (.ref 181) rfl (fun _ => rfl) ?_
      refine PK_gf 25 (.ref 6) rfl rfl kd_181 rfl rfl rfl ?_
      refine PK_gf 28 (.int (i32 (s.2.1 206))) rfl rfl kd_6 rfl rfl rfl ?_
      refine P_ld 31 (.int (i32 330)) rfl (fun _ => rfl) ?_
      refine P_icE 293 34 rfl rfl rfl (KCn_i gm 206 rfl) (l32 330 rfl) rfl (fun h39 => ?_) (fun h39 => ?_)
      · skip
        exact dg_fm_suffixes_34 w c N D bb s.1 g1 s.2 gm (jk [(2, j 2), (3, j 3), (4, j 4), (5, j 5), (7, j 7), (9, j 9)]) Q2 H1 H2 H3
      · skip
        refine P_some ?_
        exact H2 (.inl s.2) (jk [(1, s.1), (2, j 2), (3, j 3), (4, j 4), (5, j 5), (7, j 7), (9, j 9)]) gm
def kf_fm_suffixes (m : mR) : Option (Int × Int × mR) :=
  bnd (whl kfb_fm_suffixes_2 (0, m)) (sel
    (fun e40 : mR =>
      some (0, 0, e40))
    (fun e43 : Int × mR =>
      some (e43.1, 0, e43.2)))
theorem D_fm_suffixes (w : wX) (m : mR) (c : Nat → Option am_C) (N D : Nat) (hm : KCn m) : PC w D 102 [.ref 181] (khp m c, N) (QS (FX0 c N) (kf_fm_suffixes m)) := by
  refine Pc_of (fun D bb => ?_) D
  unfold kf_fm_suffixes
  show PP bb w D pm_102 (0, [(0, .ref 181)], [], (khp (mO m [] []) c, N), 0, 0) _
  refine P_ld 1 (.int (i32 0)) rfl (fun _ => rfl) ?_
  refine P_sto 2 [(1, .int (i32 0)), (0, .ref 181)] rfl (fun _ => rfl) ?_
  refine P_lv (b := [(0, .ref 181), (1, .int (i32 0)), (2, .int (i32 0)), (3, .int (i32 0)), (4, .int (i32 0)), (5, .long (i64 0)), (7, .long (i64 0)), (9, .int (i32 0))]) rfl rfl ⟨rfl, rfl, trivial⟩ ?_
  refine P_bnd ?_
  refine P_whlx (TX := tx_fm_suffixes_2 c N) (fun bb Q2 H1 H2 H3 s9 j9 hs9 => dh_fm_suffixes_2 w c N D bb Q2 H1 H2 H3 s9 j9 hs9) bb (fun x r hr => ?_) (fun x0 j hx0 => ?_) (0, m) (jk []) ⟨(l32 0 rfl), hm⟩
  · skip
    cases x with
    | inl e => exact False.elim hr
    | inr x =>
      obtain ⟨x9, e9, k9, rfl⟩ := hr
      exact ⟨_, rfl, k9, Or.inr ⟨x9, e9, rfl⟩⟩
  cases x0 with
  | inl e40 =>
    have q41 := hx0
    have q42 := q41
    show PP bb w D pm_102 (293, [(0, .ref 181), (1, .int (i32 (j 1))), (2, .int (i32 (j 2))), (3, .int (i32 (j 3))), (4, .int (i32 (j 4))), (5, .long (i64 (j 5))), (7, .long (i64 (j 7))), (9, .int (i32 (j 9)))], [], (khp (mO e40 [] []) c, N), 0, 0) (QS _ (some (0, 0, e40)))
    exact P_rx0 rfl rfl q42
  | inr e43 =>
    have q44 := hx0
    have q44 := q44
    exact False.elim q44
def kf_fm_levelOf (v0 : Int) (m : mR) : Option Int :=
  if v0 = 38 then
    some 6
  else
    if v0 = 43 then
      some 8
    else
      if v0 = 45 then
        some 8
      else
        if v0 = 60 then
          some 3
        else
          if v0 = 62 then
            some 3
          else
            if v0 = 94 then
              some 5
            else
              if v0 = 124 then
                some 4
              else
                if v0 = 8509 then
                  some 3
                else
                  if v0 = 9766 then
                    some 2
                  else
                    if v0 = 11051 then
                      some 9
                    else
                      if v0 = 15420 then
                        some 7
                      else
                        if v0 = 15421 then
                          some 3
                        else
                          if v0 = 15677 then
                            some 3
                          else
                            if v0 = 15933 then
                              some 3
                            else
                              if v0 = 15934 then
                                some 7
                              else
                                if v0 = 31868 then
                                  some 1
                                else
                                  some 0
theorem D_fm_levelOf (w : wX) (m : mR) (c : Nat → Option am_C) (N D : Nat) (hm : KCn m) (v0 : Int) (q0 : R32 v0) : PC w D 108 [.int (i32 v0)] (khp m c, N) (QS (FP1 (khp m c, N)) (kf_fm_levelOf v0 m)) := by
  refine Pc_of (fun D bb => ?_) D
  unfold kf_fm_levelOf
  show PP bb w D pm_108 (0, [(0, .int (i32 v0))], [], (khp (mO m [] []) c, N), 0, 0) _
  refine P_ld 1 (.int (i32 v0)) rfl (fun _ => rfl) ?_
  refine P_cs (fun h1 => ?_) (fun h1 => ?_)
  · skip
    refine P_cast 38 h1 ?_
    refine P_pop 150 rfl (fun _ => rfl) ?_
    refine P_ld 152 (.int (i32 6)) rfl (fun _ => rfl) ?_
    exact P_rp1 rfl (l32 6 rfl)
  · skip
    refine P_cs (fun h2 => ?_) (fun h2 => ?_)
    · skip
      refine P_cast 43 h2 ?_
      refine P_pop 156 rfl (fun _ => rfl) ?_
      refine P_ld 158 (.int (i32 8)) rfl (fun _ => rfl) ?_
      exact P_rp1 rfl (l32 8 rfl)
    · skip
      refine P_cs (fun h3 => ?_) (fun h3 => ?_)
      · skip
        refine P_cast 45 h3 ?_
        refine P_pop 156 rfl (fun _ => rfl) ?_
        refine P_ld 158 (.int (i32 8)) rfl (fun _ => rfl) ?_
        exact P_rp1 rfl (l32 8 rfl)
      · skip
        refine P_cs (fun h4 => ?_) (fun h4 => ?_)
        · skip
          refine P_cast 60 h4 ?_
          refine P_pop 144 rfl (fun _ => rfl) ?_
          refine P_ld 145 (.int (i32 3)) rfl (fun _ => rfl) ?_
          exact P_rp1 rfl (l32 3 rfl)
        · skip
          refine P_cs (fun h5 => ?_) (fun h5 => ?_)
          · skip
            refine P_cast 62 h5 ?_
            refine P_pop 144 rfl (fun _ => rfl) ?_
            refine P_ld 145 (.int (i32 3)) rfl (fun _ => rfl) ?_
            exact P_rp1 rfl (l32 3 rfl)
          · skip
            refine P_cs (fun h6 => ?_) (fun h6 => ?_)
            · skip
              refine P_cast 94 h6 ?_
              refine P_pop 148 rfl (fun _ => rfl) ?_
              refine P_ld 149 (.int (i32 5)) rfl (fun _ => rfl) ?_
              exact P_rp1 rfl (l32 5 rfl)
            · skip
              refine P_cs (fun h7 => ?_) (fun h7 => ?_)
              · skip
                refine P_cast 124 h7 ?_
                refine P_pop 146 rfl (fun _ => rfl) ?_
                refine P_ld 147 (.int (i32 4)) rfl (fun _ => rfl) ?_
                exact P_rp1 rfl (l32 4 rfl)
              · skip
                refine P_cs (fun h8 => ?_) (fun h8 => ?_)
                · skip
                  refine P_cast 8509 h8 ?_
                  refine P_pop 144 rfl (fun _ => rfl) ?_
                  refine P_ld 145 (.int (i32 3)) rfl (fun _ => rfl) ?_
                  exact P_rp1 rfl (l32 3 rfl)
                · skip
                  refine P_cs (fun h9 => ?_) (fun h9 => ?_)
                  · skip
                    refine P_cast 9766 h9 ?_
                    refine P_pop 142 rfl (fun _ => rfl) ?_
                    refine P_ld 143 (.int (i32 2)) rfl (fun _ => rfl) ?_
                    exact P_rp1 rfl (l32 2 rfl)
                  · skip
                    refine P_cs (fun h10 => ?_) (fun h10 => ?_)
                    · skip
                      refine P_cast 11051 h10 ?_
                      refine P_pop 159 rfl (fun _ => rfl) ?_
                      refine P_ld 161 (.int (i32 9)) rfl (fun _ => rfl) ?_
                      exact P_rp1 rfl (l32 9 rfl)
                    · skip
                      refine P_cs (fun h11 => ?_) (fun h11 => ?_)
                      · skip
                        refine P_cast 15420 h11 ?_
                        refine P_pop 153 rfl (fun _ => rfl) ?_
                        refine P_ld 155 (.int (i32 7)) rfl (fun _ => rfl) ?_
                        exact P_rp1 rfl (l32 7 rfl)
                      · skip
                        refine P_cs (fun h12 => ?_) (fun h12 => ?_)
                        · skip
                          refine P_cast 15421 h12 ?_
                          refine P_pop 144 rfl (fun _ => rfl) ?_
                          refine P_ld 145 (.int (i32 3)) rfl (fun _ => rfl) ?_
                          exact P_rp1 rfl (l32 3 rfl)
                        · skip
                          refine P_cs (fun h13 => ?_) (fun h13 => ?_)
                          · skip
                            refine P_cast 15677 h13 ?_
                            refine P_pop 144 rfl (fun _ => rfl) ?_
                            refine P_ld 145 (.int (i32 3)) rfl (fun _ => rfl) ?_
                            exact P_rp1 rfl (l32 3 rfl)
                          · skip
                            refine P_cs (fun h14 => ?_) (fun h14 => ?_)
                            · skip
                              refine P_cast 15933 h14 ?_
                              refine P_pop 144 rfl (fun _ => rfl) ?_
                              refine P_ld 145 (.int (i32 3)) rfl (fun _ => rfl) ?_
                              exact P_rp1 rfl (l32 3 rfl)
                            · skip
                              refine P_cs (fun h15 => ?_) (fun h15 => ?_)
                              · skip
                                refine P_cast 15934 h15 ?_
                                refine P_pop 153 rfl (fun _ => rfl) ?_
                                refine P_ld 155 (.int (i32 7)) rfl (fun _ => rfl) ?_
                                exact P_rp1 rfl (l32 7 rfl)
                              · skip
                                refine P_cs (fun h16 => ?_) (fun h16 => ?_)
                                · skip
                                  refine P_cast 31868 h16 ?_
                                  refine P_pop 140 rfl (fun _ => rfl) ?_
                                  refine P_ld 141 (.int (i32 1)) rfl (fun _ => rfl) ?_
                                  exact P_rp1 rfl (l32 1 rfl)
                                · skip
                                  refine P_lkd 162 rfl rfl q0 (by simp [Op.lookupswitch.offset, h1, Ne.symm h1, h2, Ne.symm h2, h3, Ne.symm h3, h4, Ne.symm h4, h5, Ne.symm h5, h6, Ne.symm h6, h7, Ne.symm h7, h8, Ne.symm h8, h9, Ne.symm h9, h10, Ne.symm h10, h11, Ne.symm h11, h12, Ne.symm h12, h13, Ne.symm h13, h14, Ne.symm h14, h15, Ne.symm h15, h16, Ne.symm h16]) ?_
                                  refine P_ld 163 (.int (i32 0)) rfl (fun _ => rfl) ?_
                                  exact P_rp1 rfl (l32 0 rfl)
def kfl_fm_top_22 (u0 : Int) (m : mR) : Option Int :=
  some u0
theorem dg_fm_top_22 (w : wX) (c : Nat → Option am_C) (N D : Nat) (bb : Nat) (u0 : Int) (r0 : R32 u0) (m : mR) (hm : KCn m) (j : Nat → Int) : PP bb w D pm_104 (22, [(0, .ref 181)], [.int (i32 u0)], (khp m c, N), 0, 0) (QS (FP1 (khp m c, N)) (kfl_fm_top_22 u0 m)) := by
  unfold kfl_fm_top_22
  show PP bb w D pm_104 (22, [(0, .ref 181)], [.int (i32 u0)], (khp (mO m [] []) c, N), 0, 0) _
  exact P_rp1 rfl r0
def kf_fm_top (m : mR) : Option Int :=
  if m.1 228 ≤ 0 then
    kfl_fm_top_22 (-1) m
  else
    kfl_fm_top_22 ((m.2 68) (cut ((m.1 228) - 1))) m
theorem D_fm_top (w : wX) (m : mR) (c : Nat → Option am_C) (N D : Nat) (hm : KCn m) : PC w D 104 [.ref 181] (khp m c, N) (QS (FP1 (khp m c, N)) (kf_fm_top m)) := by
  refine Pc_of (fun D bb => ?_) D
  unfold kf_fm_top
  show PP bb w D pm_104 (0, [(0, .ref 181)], [], (khp (mO m [] []) c, N), 0, 0) _
  refine P_ld 1 (.ref 181) rfl (fun _ => rfl) ?_
  refine PK_gf 4 (.int (i32 (m.1 228))) rfl rfl kd_181 rfl rfl rfl ?_
  refine P_ifF 21 7 rfl rfl rfl (KCn_i hm 228 rfl) rfl (fun h1 => ?_) (fun h1 => ?_)
  · skip
    refine P_ld 22 (.int (i32 (-1))) rfl (fun _ => rfl) ?_
    exact dg_fm_top_22 w c N D bb (-1) (l32 (-1) rfl) m hm (jk [])
  · skip
    refine P_ld 8 (.ref 181) rfl (fun _ => rfl) ?_
    refine PK_gf 11 (.ref 182) rfl rfl kd_181 rfl rfl rfl ?_
    refine P_ld 12 (.ref 181) rfl (fun _ => rfl) ?_
    refine PK_gf 15 (.int (i32 (m.1 228))) rfl rfl kd_181 rfl rfl rfl ?_
    refine P_ld 16 (.int (i32 1)) rfl (fun _ => rfl) ?_
    refine P_op 17 (cut ((m.1 228) - 1)) _ rfl (fun _ => rfl) o_sub ?_
    refine PK_iald2 18 68 (m.2 68) rfl rfl rfl cut_r rfl ?_
    refine P_goto 22 rfl (fun _ => rfl) ?_
    exact dg_fm_top_22 w c N D bb ((m.2 68) (cut ((m.1 228) - 1))) (kE_i (KCn_a hm 68) rfl _) m hm (jk [])
def kfl_fm_closeBracket_19 (m : mR) : Option (Int × Int × mR) :=
  bnd (kf_tx_advance (mO m [(228, cut ((m.1 228) - 1)), (230, cut ((m.1 230) - 1))] [(23, upI (m.2 23) ((m.2 70) (cut ((m.1 229) - 1))) ((m.2 69) (cut ((m.1 228) - 1))))])) fun y1 =>
  if y1.1 = 0 then
    some (0, 2, y1.2.2)
  else
    some (y1.1, 0, y1.2.2)
theorem dg_fm_closeBracket_19 (w : wX) (c : Nat → Option am_C) (N D : Nat) (bb : Nat) (m : mR) (hm : KCn m) (j : Nat → Int) : PP bb w D pm_113 (19, [(0, .ref 181)], [], (khp m c, N), 0, 0) (QS (FX1 c N) (kfl_fm_closeBracket_19 m)) := by
  unfold kfl_fm_closeBracket_19
  show PP bb w D pm_113 (19, [(0, .ref 181)], [], (khp (mO m [] []) c, N), 0, 0) _
  refine P_ld 20 (.ref 181) rfl (fun _ => rfl) ?_
  refine P_ld 21 (.ref 181) rfl (fun _ => rfl) ?_
  refine PK_gf 24 (.int (i32 (m.1 228))) rfl rfl kd_181 rfl rfl rfl ?_
  refine P_ld 25 (.int (i32 1)) rfl (fun _ => rfl) ?_
  refine P_op 26 (cut ((m.1 228) - 1)) _ rfl (fun _ => rfl) o_sub ?_
  refine PK_pf (l' := [(228, cut ((m.1 228) - 1))]) 29 (cut ((m.1 228) - 1)) rfl rfl kd_181 rfl rfl rfl rfl rfl rfl rfl ?_
  refine P_ld 30 (.ref 181) rfl (fun _ => rfl) ?_
  refine P_ld 31 (.ref 181) rfl (fun _ => rfl) ?_
  refine PK_gf 34 (.int (i32 (m.1 230))) rfl rfl kd_181 rfl rfl rfl ?_
  refine P_ld 35 (.int (i32 1)) rfl (fun _ => rfl) ?_
  refine P_op 36 (cut ((m.1 230) - 1)) _ rfl (fun _ => rfl) o_sub ?_
  refine PK_pf (l' := [(228, cut ((m.1 228) - 1)), (230, cut ((m.1 230) - 1))]) 39 (cut ((m.1 230) - 1)) rfl rfl kd_181 rfl rfl rfl rfl rfl rfl rfl ?_
  refine P_ld 40 (.ref 181) rfl (fun _ => rfl) ?_
  refine PK_gf 43 (.ref 22) rfl rfl kd_181 rfl rfl rfl ?_
  refine PK_gf 46 (.ref 28) rfl rfl kd_22 rfl rfl rfl ?_
  refine P_ld 47 (.ref 181) rfl (fun _ => rfl) ?_
  refine PK_gf 50 (.ref 184) rfl rfl kd_181 rfl rfl rfl ?_
  refine P_ld 51 (.ref 181) rfl (fun _ => rfl) ?_
  refine PK_gf 54 (.int (i32 (m.1 229))) rfl rfl kd_181 rfl rfl rfl ?_
  refine P_ld 55 (.int (i32 1)) rfl (fun _ => rfl) ?_
  refine P_op 56 (cut ((m.1 229) - 1)) _ rfl (fun _ => rfl) o_sub ?_
  refine PK_iald2 57 70 (m.2 70) rfl rfl rfl cut_r rfl ?_
  refine P_ld 58 (.ref 181) rfl (fun _ => rfl) ?_
  refine PK_gf 61 (.ref 183) rfl rfl kd_181 rfl rfl rfl ?_
  refine P_ld 62 (.ref 181) rfl (fun _ => rfl) ?_
  refine PK_gf 65 (.int (i32 (cut ((m.1 228) - 1)))) rfl rfl kd_181 rfl rfl rfl ?_
  refine PK_iald2 66 69 (m.2 69) rfl rfl rfl cut_r rfl ?_
  refine PK_iast2 (a' := [(23, upI (m.2 23) ((m.2 70) (cut ((m.1 229) - 1))) ((m.2 69) (cut ((m.1 228) - 1))))]) 67 23 (m.2 23) rfl rfl rfl (kE_i (KCn_a hm 70) rfl _) rfl rfl ?_
  refine P_ld 68 (.ref 181) rfl (fun _ => rfl) ?_
  refine PK_gf 71 (.ref 6) rfl rfl kd_181 rfl rfl rfl ?_
  refine P_cx0 74 50 [.ref 6] [] rfl (fun _ => rfl) rfl rfl (D_tx_advance w (mO m [(228, cut ((m.1 228) - 1)), (230, cut ((m.1 230) - 1))] [(23, upI (m.2 23) ((m.2 70) (cut ((m.1 229) - 1))) ((m.2 69) (cut ((m.1 228) - 1))))]) c N D (KCn_mO hm rfl rfl ⟨(kV_i rfl cut_r), (kV_i rfl cut_r), trivial⟩ ⟨(kE_ui (KCn_a hm 23) rfl (kE_i (KCn_a hm 69) rfl _)), trivial⟩)) (fun y x hm e => ⟨_, rfl, hm, Or.inr ⟨x, e, rfl⟩⟩) (fun y1 n3 => ?_)
  refine P_ld 75 (.int (i32 2)) rfl (fun _ => rfl) ?_
  exact P_rx1 rfl (l32 2 rfl) n3
def kf_fm_closeBracket (m : mR) : Option (Int × Int × mR) :=
  if m.1 206 = 41 then
    kfl_fm_closeBracket_19 m
  else
    bnd (kf_tx_refuse m) fun y5 =>
    if y5.1 = 0 then
      kfl_fm_closeBracket_19 y5.2.2
    else
      some (y5.1, 0, y5.2.2)
theorem D_fm_closeBracket (w : wX) (m : mR) (c : Nat → Option am_C) (N D : Nat) (hm : KCn m) : PC w D 113 [.ref 181] (khp m c, N) (QS (FX1 c N) (kf_fm_closeBracket m)) := by
  refine Pc_of (fun D bb => ?_) D
  unfold kf_fm_closeBracket
  show PP bb w D pm_113 (0, [(0, .ref 181)], [], (khp (mO m [] []) c, N), 0, 0) _
  refine P_ld 1 (.ref 181) rfl (fun _ => rfl) ?_
  refine PK_gf 4 (.ref 6) rfl rfl kd_181 rfl rfl rfl ?_
  refine PK_gf 7 (.int (i32 (m.1 206))) rfl rfl kd_6 rfl rfl rfl ?_
  refine P_ld 9 (.int (i32 41)) rfl (fun _ => rfl) ?_
  refine P_icF 19 12 rfl rfl rfl (KCn_i hm 206 rfl) (l32 41 rfl) rfl (fun h4 => ?_) (fun h4 => ?_)
  · skip
    exact dg_fm_closeBracket_19 w c N D bb m hm (jk [])
  · skip
    refine P_ld 13 (.ref 181) rfl (fun _ => rfl) ?_
    refine PK_gf 16 (.ref 6) rfl rfl kd_181 rfl rfl rfl ?_
    refine P_cx0 19 76 [.ref 6] [] rfl (fun _ => rfl) rfl rfl (D_tx_refuse w m c N D hm) (fun y x hm e => ⟨_, rfl, hm, Or.inr ⟨x, e, rfl⟩⟩) (fun y5 n7 => ?_)
    exact dg_fm_closeBracket_19 w c N D bb y5.2.2 n7 (jk [])
def kfl_nd_fits_59 (u0 : Int) (m : mR) : Option (Int × mR) :=
  some (u0, m)
theorem dg_nd_fits_59 (w : wX) (c : Nat → Option am_C) (N D : Nat) (bb : Nat) (u0 : Int) (r0 : R32 u0) (m : mR) (hm : KCn m) (j : Nat → Int) : PP bb w D pm_107 (59, [(0, .ref 22), (1, .int (i32 (j 1))), (2, .int (i32 (j 2)))], [.int (i32 u0)], (khp m c, N), 0, 0) (QS (FK1 c N) (kfl_nd_fits_59 u0 m)) := by
  unfold kfl_nd_fits_59
  show PP bb w D pm_107 (59, [(0, .ref 22), (1, .int (i32 (j 1))), (2, .int (i32 (j 2)))], [.int (i32 u0)], (khp (mO m [] []) c, N), 0, 0) _
  exact P_rk1 rfl r0 hm
def kfl_nd_fits_54 (m : mR) : Option (Int × mR) :=
  kfl_nd_fits_59 1 m
theorem dg_nd_fits_54 (w : wX) (c : Nat → Option am_C) (N D : Nat) (bb : Nat) (m : mR) (hm : KCn m) (j : Nat → Int) : PP bb w D pm_107 (54, [(0, .ref 22), (1, .int (i32 (j 1))), (2, .int (i32 (j 2)))], [], (khp m c, N), 0, 0) (QS (FK1 c N) (kfl_nd_fits_54 m)) := by
  unfold kfl_nd_fits_54
  show PP bb w D pm_107 (54, [(0, .ref 22), (1, .int (i32 (j 1))), (2, .int (i32 (j 2)))], [], (khp (mO m [] []) c, N), 0, 0) _
  refine P_ld 55 (.int (i32 1)) rfl (fun _ => rfl) ?_
  refine P_goto 59 rfl (fun _ => rfl) ?_
  exact dg_nd_fits_59 w c N D bb 1 (l32 1 rfl) m hm (jk [(1, j 1), (2, j 2)])
def kfl_nd_fits_27 (u0 : Int) (m : mR) : Option (Int × mR) :=
  some (u0, m)
theorem dg_nd_fits_27 (w : wX) (c : Nat → Option am_C) (N D : Nat) (bb : Nat) (u0 : Int) (r0 : R32 u0) (m : mR) (hm : KCn m) (j : Nat → Int) : PP bb w D pm_107 (27, [(0, .ref 22), (1, .int (i32 (j 1))), (2, .int (i32 (j 2)))], [.int (i32 u0)], (khp m c, N), 0, 0) (QS (FK1 c N) (kfl_nd_fits_27 u0 m)) := by
  unfold kfl_nd_fits_27
  show PP bb w D pm_107 (27, [(0, .ref 22), (1, .int (i32 (j 1))), (2, .int (i32 (j 2)))], [.int (i32 u0)], (khp (mO m [] []) c, N), 0, 0) _
  exact P_rk1 rfl r0 hm
def kf_nd_fits (v1 : Int) (v2 : Int) (m : mR) : Option (Int × mR) :=
  if (m.2 18) v1 = 257 then
    if (64 : Int) ≤ v2 then
      kfl_nd_fits_54 (mO m [] [(22, upI (m.2 22) v1 v2)])
    else
      if cmp64 (ushr64 ((m.2 24) v1) v2) 0 = 0 then
        kfl_nd_fits_54 (mO m [] [(22, upI (m.2 22) v1 v2)])
      else
        kfl_nd_fits_59 0 (mO m [] [(22, upI (m.2 22) v1 v2)])
  else
    if (m.2 22) v1 = v2 then
      kfl_nd_fits_27 1 m
    else
      kfl_nd_fits_27 0 m
theorem D_nd_fits (w : wX) (m : mR) (c : Nat → Option am_C) (N D : Nat) (hm : KCn m) (v1 : Int) (v2 : Int) (q1 : R32 v1) (q2 : R32 v2) : PC w D 107 [.ref 22, .int (i32 v1), .int (i32 v2)] (khp m c, N) (QS (FK1 c N) (kf_nd_fits v1 v2 m)) := by
  refine Pc_of (fun D bb => ?_) D
  unfold kf_nd_fits
  show PP bb w D pm_107 (0, [(0, .ref 22), (1, .int (i32 v1)), (2, .int (i32 v2))], [], (khp (mO m [] []) c, N), 0, 0) _
  refine P_ld 1 (.ref 22) rfl (fun _ => rfl) ?_
  refine PK_gf 4 (.ref 23) rfl rfl kd_22 rfl rfl rfl ?_
  refine P_ld 5 (.int (i32 v1)) rfl (fun _ => rfl) ?_
  refine PK_iald2 6 18 (m.2 18) rfl rfl rfl q1 rfl ?_
  refine P_ld 9 (.int (i32 257)) rfl (fun _ => rfl) ?_
  refine P_icF 28 12 rfl rfl rfl (kE_i (KCn_a hm 18) rfl _) (l32 257 rfl) rfl (fun h1 => ?_) (fun h1 => ?_)
  · skip
    refine P_ld 29 (.ref 22) rfl (fun _ => rfl) ?_
    refine PK_gf 32 (.ref 27) rfl rfl kd_22 rfl rfl rfl ?_
    refine P_ld 33 (.int (i32 v1)) rfl (fun _ => rfl) ?_
    refine P_ld 34 (.int (i32 v2)) rfl (fun _ => rfl) ?_
    refine PK_iast2 (a' := [(22, upI (m.2 22) v1 v2)]) 35 22 (m.2 22) rfl rfl rfl q1 rfl rfl ?_
    refine P_ld 36 (.int (i32 v2)) rfl (fun _ => rfl) ?_
    refine P_ld 38 (.int (i32 64)) rfl (fun _ => rfl) ?_
    refine P_icF 54 41 rfl rfl rfl q2 (l32 64 rfl) rfl (fun h2 => ?_) (fun h2 => ?_)
    · skip
      exact dg_nd_fits_54 w c N D bb (mO m [] [(22, upI (m.2 22) v1 v2)]) (KCn_mO hm rfl rfl trivial ⟨(kE_ui (KCn_a hm 22) rfl q2), trivial⟩) (jk [(1, v1), (2, v2)])
    · skip
      refine P_ld 42 (.ref 22) rfl (fun _ => rfl) ?_
      refine PK_gf 45 (.ref 29) rfl rfl kd_22 rfl rfl rfl ?_
      refine P_ld 46 (.int (i32 v1)) rfl (fun _ => rfl) ?_
      refine PK_lald2 47 24 (m.2 24) rfl rfl rfl q1 rfl ?_
      refine P_ld 48 (.int (i32 v2)) rfl (fun _ => rfl) ?_
      refine P_opl 49 (ushr64 ((m.2 24) v1) v2) _ rfl (fun _ => rfl) (Int64.ofInt_toInt _).symm ?_
      refine P_ld 50 (.long (i64 0)) rfl (fun _ => rfl) ?_
      refine P_op 51 (cmp64 (ushr64 ((m.2 24) v1) v2) 0) _ rfl (fun _ => rfl) (o_cmp t64_r (l64 0 rfl)) ?_
      refine P_ifE 58 54 rfl rfl rfl cmp64_r rfl (fun h3 => ?_) (fun h3 => ?_)
      · skip
        exact dg_nd_fits_54 w c N D bb (mO m [] [(22, upI (m.2 22) v1 v2)]) (KCn_mO hm rfl rfl trivial ⟨(kE_ui (KCn_a hm 22) rfl q2), trivial⟩) (jk [(1, v1), (2, v2)])
      · skip
        refine P_ld 59 (.int (i32 0)) rfl (fun _ => rfl) ?_
        exact dg_nd_fits_59 w c N D bb 0 (l32 0 rfl) (mO m [] [(22, upI (m.2 22) v1 v2)]) (KCn_mO hm rfl rfl trivial ⟨(kE_ui (KCn_a hm 22) rfl q2), trivial⟩) (jk [(1, v1), (2, v2)])
  · skip
    refine P_ld 13 (.ref 22) rfl (fun _ => rfl) ?_
    refine PK_gf 16 (.ref 27) rfl rfl kd_22 rfl rfl rfl ?_
    refine P_ld 17 (.int (i32 v1)) rfl (fun _ => rfl) ?_
    refine PK_iald2 18 22 (m.2 22) rfl rfl rfl q1 rfl ?_
    refine P_ld 19 (.int (i32 v2)) rfl (fun _ => rfl) ?_
    refine P_icE 26 22 rfl rfl rfl (kE_i (KCn_a hm 22) rfl _) q2 rfl (fun h4 => ?_) (fun h4 => ?_)
    · skip
      refine P_ld 23 (.int (i32 1)) rfl (fun _ => rfl) ?_
      refine P_goto 27 rfl (fun _ => rfl) ?_
      exact dg_nd_fits_27 w c N D bb 1 (l32 1 rfl) m hm (jk [(1, v1), (2, v2)])
    · skip
      refine P_ld 27 (.int (i32 0)) rfl (fun _ => rfl) ?_
      exact dg_nd_fits_27 w c N D bb 0 (l32 0 rfl) m hm (jk [(1, v1), (2, v2)])
def kfl_fm_agree_91 (v4 : Int) (u0 : Int) (m : mR) : Option (Int × Int × mR) :=
  bnd (kf_nd_fits v4 u0 m) fun y1 =>
  if y1.1 = 0 then
    bnd (kf_tx_fail 7 ((y1.2.2 23) v4) y1.2) fun y5 =>
    if y5.1 = 0 then
      some (0, 0, y5.2.2)
    else
      some (y5.1, 0, y5.2.2)
  else
    some (0, 0, y1.2)
theorem dg_fm_agree_91 (w : wX) (c : Nat → Option am_C) (N D : Nat) (bb : Nat) (v4 : Int) (u0 : Int) (q4 : R32 v4) (r0 : R32 u0) (m : mR) (hm : KCn m) (j : Nat → Int) : PP bb w D pm_110 (91, [(0, .ref 181), (1, .int (i32 (j 1))), (2, .int (i32 (j 2))), (3, .int (i32 (j 3))), (4, .int (i32 v4))], [.int (i32 u0)], (khp m c, N), 0, 0) (QS (FX0 c N) (kfl_fm_agree_91 v4 u0 m)) := by
  unfold kfl_fm_agree_91
  show PP bb w D pm_110 (91, [(0, .ref 181), (1, .int (i32 (j 1))), (2, .int (i32 (j 2))), (3, .int (i32 (j 3))), (4, .int (i32 v4))], [.int (i32 u0)], (khp (mO m [] []) c, N), 0, 0) _
  refine P_sto 93 [(5, .int (i32 u0)), (0, .ref 181), (1, .int (i32 (j 1))), (2, .int (i32 (j 2))), (3, .int (i32 (j 3))), (4, .int (i32 v4))] rfl (fun _ => rfl) ?_
  refine P_ld 94 (.ref 181) rfl (fun _ => rfl) ?_
  refine PK_gf 97 (.ref 22) rfl rfl kd_181 rfl rfl rfl ?_
  refine P_ld 99 (.int (i32 v4)) rfl (fun _ => rfl) ?_
  refine P_ld 101 (.int (i32 u0)) rfl (fun _ => rfl) ?_
  refine P_ck1 104 107 [.ref 22, .int (i32 v4), .int (i32 u0)] [] rfl (fun _ => rfl) rfl (D_nd_fits w m c N D hm v4 u0 q4 r0) (fun y1 h2 n3 => ?_)
  refine P_ifE 126 107 rfl rfl rfl h2 rfl (fun h4 => ?_) (fun h4 => ?_)
  · skip
    refine P_ld 108 (.ref 181) rfl (fun _ => rfl) ?_
    refine PK_gf 111 (.ref 6) rfl rfl kd_181 rfl rfl rfl ?_
    refine P_ld 113 (.int (i32 7)) rfl (fun _ => rfl) ?_
    refine P_ld 114 (.ref 181) rfl (fun _ => rfl) ?_
    refine PK_gf 117 (.ref 22) rfl rfl kd_181 rfl rfl rfl ?_
    refine PK_gf 120 (.ref 28) rfl rfl kd_22 rfl rfl rfl ?_
    refine P_ld 122 (.int (i32 v4)) rfl (fun _ => rfl) ?_
    refine PK_iald2 123 23 (y1.2.2 23) rfl rfl rfl q4 rfl ?_
    refine P_cx0 126 51 [.ref 6, .int (i32 7), .int (i32 ((y1.2.2 23) v4))] [] rfl (fun _ => rfl) rfl rfl (D_tx_fail w y1.2 c N D n3 7 ((y1.2.2 23) v4) (l32 7 rfl) (kE_i (KCn_a n3 23) rfl _)) (fun y x hm e => ⟨_, rfl, hm, Or.inr ⟨x, e, rfl⟩⟩) (fun y5 n7 => ?_)
    exact P_rx0 rfl rfl n7
  · skip
    exact P_rx0 rfl rfl n3
def kfl_fm_agree_55 (v1 : Int) (v2 : Int) (v3 : Int) (u0 : Int) (m : mR) : Option (Int × Int × mR) :=
  if v2 = (-1) then
    kfl_fm_agree_91 u0 1 m
  else
    if v3 = 0 then
      kfl_fm_agree_91 u0 ((m.2 22) v1) m
    else
      kfl_fm_agree_91 u0 ((m.2 22) v2) m
theorem dg_fm_agree_55 (w : wX) (c : Nat → Option am_C) (N D : Nat) (bb : Nat) (v1 : Int) (v2 : Int) (v3 : Int) (u0 : Int) (q1 : R32 v1) (q2 : R32 v2) (q3 : R32 v3) (r0 : R32 u0) (m : mR) (hm : KCn m) (j : Nat → Int) : PP bb w D pm_110 (55, [(0, .ref 181), (1, .int (i32 v1)), (2, .int (i32 v2)), (3, .int (i32 v3))], [.int (i32 u0)], (khp m c, N), 0, 0) (QS (FX0 c N) (kfl_fm_agree_55 v1 v2 v3 u0 m)) := by
  unfold kfl_fm_agree_55
  show PP bb w D pm_110 (55, [(0, .ref 181), (1, .int (i32 v1)), (2, .int (i32 v2)), (3, .int (i32 v3))], [.int (i32 u0)], (khp (mO m [] []) c, N), 0, 0) _
  refine P_sto 57 [(4, .int (i32 u0)), (0, .ref 181), (1, .int (i32 v1)), (2, .int (i32 v2)), (3, .int (i32 v3))] rfl (fun _ => rfl) ?_
  refine P_ld 58 (.int (i32 v2)) rfl (fun _ => rfl) ?_
  refine P_ld 59 (.int (i32 (-1))) rfl (fun _ => rfl) ?_
  refine P_icE 66 62 rfl rfl rfl q2 (l32 (-1) rfl) rfl (fun h8 => ?_) (fun h8 => ?_)
  · skip
    refine P_ld 63 (.int (i32 1)) rfl (fun _ => rfl) ?_
    refine P_goto 91 rfl (fun _ => rfl) ?_
    refine P_lv (b := [(0, .ref 181), (1, .int (i32 v1)), (2, .int (i32 v2)), (3, .int (i32 v3)), (4, .int (i32 u0))]) rfl rfl ⟨rfl, rfl, rfl, rfl, rfl, trivial⟩ ?_
    exact dg_fm_agree_91 w c N D bb u0 1 r0 (l32 1 rfl) m hm (jk [(1, v1), (2, v2), (3, v3)])
  · skip
    refine P_ld 67 (.int (i32 v3)) rfl (fun _ => rfl) ?_
    refine P_ifF 82 70 rfl rfl rfl q3 rfl (fun h9 => ?_) (fun h9 => ?_)
    · skip
      refine P_ld 83 (.ref 181) rfl (fun _ => rfl) ?_
      refine PK_gf 86 (.ref 22) rfl rfl kd_181 rfl rfl rfl ?_
      refine PK_gf 89 (.ref 27) rfl rfl kd_22 rfl rfl rfl ?_
      refine P_ld 90 (.int (i32 v1)) rfl (fun _ => rfl) ?_
      refine PK_iald2 91 22 (m.2 22) rfl rfl rfl q1 rfl ?_
      refine P_lv (b := [(0, .ref 181), (1, .int (i32 v1)), (2, .int (i32 v2)), (3, .int (i32 v3)), (4, .int (i32 u0))]) rfl rfl ⟨rfl, rfl, rfl, rfl, rfl, trivial⟩ ?_
      exact dg_fm_agree_91 w c N D bb u0 ((m.2 22) v1) r0 (kE_i (KCn_a hm 22) rfl _) m hm (jk [(1, v1), (2, v2), (3, v3)])
    · skip
      refine P_ld 71 (.ref 181) rfl (fun _ => rfl) ?_
      refine PK_gf 74 (.ref 22) rfl rfl kd_181 rfl rfl rfl ?_
      refine PK_gf 77 (.ref 27) rfl rfl kd_22 rfl rfl rfl ?_
      refine P_ld 78 (.int (i32 v2)) rfl (fun _ => rfl) ?_
      refine PK_iald2 79 22 (m.2 22) rfl rfl rfl q2 rfl ?_
      refine P_goto 91 rfl (fun _ => rfl) ?_
      refine P_lv (b := [(0, .ref 181), (1, .int (i32 v1)), (2, .int (i32 v2)), (3, .int (i32 v3)), (4, .int (i32 u0))]) rfl rfl ⟨rfl, rfl, rfl, rfl, rfl, trivial⟩ ?_
      exact dg_fm_agree_91 w c N D bb u0 ((m.2 22) v2) r0 (kE_i (KCn_a hm 22) rfl _) m hm (jk [(1, v1), (2, v2), (3, v3)])
def kfl_fm_agree_50 (v1 : Int) (v2 : Int) (v3 : Int) (m : mR) : Option (Int × Int × mR) :=
  kfl_fm_agree_55 v1 v2 v3 v1 m
theorem dg_fm_agree_50 (w : wX) (c : Nat → Option am_C) (N D : Nat) (bb : Nat) (v1 : Int) (v2 : Int) (v3 : Int) (q1 : R32 v1) (q2 : R32 v2) (q3 : R32 v3) (m : mR) (hm : KCn m) (j : Nat → Int) : PP bb w D pm_110 (50, [(0, .ref 181), (1, .int (i32 v1)), (2, .int (i32 v2)), (3, .int (i32 v3))], [], (khp m c, N), 0, 0) (QS (FX0 c N) (kfl_fm_agree_50 v1 v2 v3 m)) := by
  unfold kfl_fm_agree_50
  show PP bb w D pm_110 (50, [(0, .ref 181), (1, .int (i32 v1)), (2, .int (i32 v2)), (3, .int (i32 v3))], [], (khp (mO m [] []) c, N), 0, 0) _
  refine P_ld 51 (.int (i32 v1)) rfl (fun _ => rfl) ?_
  refine P_goto 55 rfl (fun _ => rfl) ?_
  exact dg_fm_agree_55 w c N D bb v1 v2 v3 v1 q1 q2 q3 q1 m hm (jk [])
def kfl_fm_agree_40 (v1 : Int) (v2 : Int) (u0 : Int) (m : mR) : Option (Int × Int × mR) :=
  if v2 = (-1) then
    kfl_fm_agree_50 v1 v2 u0 m
  else
    if u0 = 0 then
      kfl_fm_agree_55 v1 v2 u0 v2 m
    else
      kfl_fm_agree_50 v1 v2 u0 m
theorem dg_fm_agree_40 (w : wX) (c : Nat → Option am_C) (N D : Nat) (bb : Nat) (v1 : Int) (v2 : Int) (u0 : Int) (q1 : R32 v1) (q2 : R32 v2) (r0 : R32 u0) (m : mR) (hm : KCn m) (j : Nat → Int) : PP bb w D pm_110 (40, [(0, .ref 181), (1, .int (i32 v1)), (2, .int (i32 v2))], [.int (i32 u0)], (khp m c, N), 0, 0) (QS (FX0 c N) (kfl_fm_agree_40 v1 v2 u0 m)) := by
  unfold kfl_fm_agree_40
  show PP bb w D pm_110 (40, [(0, .ref 181), (1, .int (i32 v1)), (2, .int (i32 v2))], [.int (i32 u0)], (khp (mO m [] []) c, N), 0, 0) _
  refine P_sto 41 [(3, .int (i32 u0)), (0, .ref 181), (1, .int (i32 v1)), (2, .int (i32 v2))] rfl (fun _ => rfl) ?_
  refine P_ld 42 (.int (i32 v2)) rfl (fun _ => rfl) ?_
  refine P_ld 43 (.int (i32 (-1))) rfl (fun _ => rfl) ?_
  refine P_icF 50 46 rfl rfl rfl q2 (l32 (-1) rfl) rfl (fun h10 => ?_) (fun h10 => ?_)
  · skip
    refine P_lv (b := [(0, .ref 181), (1, .int (i32 v1)), (2, .int (i32 v2)), (3, .int (i32 u0))]) rfl rfl ⟨rfl, rfl, rfl, rfl, trivial⟩ ?_
    exact dg_fm_agree_50 w c N D bb v1 v2 u0 q1 q2 r0 m hm (jk [])
  · skip
    refine P_ld 47 (.int (i32 u0)) rfl (fun _ => rfl) ?_
    refine P_ifF 54 50 rfl rfl rfl r0 rfl (fun h11 => ?_) (fun h11 => ?_)
    · skip
      refine P_ld 55 (.int (i32 v2)) rfl (fun _ => rfl) ?_
      refine P_lv (b := [(0, .ref 181), (1, .int (i32 v1)), (2, .int (i32 v2)), (3, .int (i32 u0))]) rfl rfl ⟨rfl, rfl, rfl, rfl, trivial⟩ ?_
      exact dg_fm_agree_55 w c N D bb v1 v2 u0 v2 q1 q2 r0 q2 m hm (jk [])
    · skip
      refine P_lv (b := [(0, .ref 181), (1, .int (i32 v1)), (2, .int (i32 v2)), (3, .int (i32 u0))]) rfl rfl ⟨rfl, rfl, rfl, rfl, trivial⟩ ?_
      exact dg_fm_agree_50 w c N D bb v1 v2 u0 q1 q2 r0 m hm (jk [])
def kfl_fm_agree_39 (v1 : Int) (v2 : Int) (m : mR) : Option (Int × Int × mR) :=
  kfl_fm_agree_40 v1 v2 0 m
theorem dg_fm_agree_39 (w : wX) (c : Nat → Option am_C) (N D : Nat) (bb : Nat) (v1 : Int) (v2 : Int) (q1 : R32 v1) (q2 : R32 v2) (m : mR) (hm : KCn m) (j : Nat → Int) : PP bb w D pm_110 (39, [(0, .ref 181), (1, .int (i32 v1)), (2, .int (i32 v2))], [], (khp m c, N), 0, 0) (QS (FX0 c N) (kfl_fm_agree_39 v1 v2 m)) := by
  unfold kfl_fm_agree_39
  show PP bb w D pm_110 (39, [(0, .ref 181), (1, .int (i32 v1)), (2, .int (i32 v2))], [], (khp (mO m [] []) c, N), 0, 0) _
  refine P_ld 40 (.int (i32 0)) rfl (fun _ => rfl) ?_
  exact dg_fm_agree_40 w c N D bb v1 v2 0 q1 q2 (l32 0 rfl) m hm (jk [])
def kf_fm_agree (v1 : Int) (v2 : Int) (m : mR) : Option (Int × Int × mR) :=
  if v2 = (-1) then
    kfl_fm_agree_39 v1 v2 m
  else
    if (m.2 18) v1 = 257 then
      if (m.2 18) v2 = 257 then
        kfl_fm_agree_39 v1 v2 m
      else
        kfl_fm_agree_40 v1 v2 1 m
    else
      kfl_fm_agree_39 v1 v2 m
theorem D_fm_agree (w : wX) (m : mR) (c : Nat → Option am_C) (N D : Nat) (hm : KCn m) (v1 : Int) (v2 : Int) (q1 : R32 v1) (q2 : R32 v2) : PC w D 110 [.ref 181, .int (i32 v1), .int (i32 v2)] (khp m c, N) (QS (FX0 c N) (kf_fm_agree v1 v2 m)) := by
  refine Pc_of (fun D bb => ?_) D
  unfold kf_fm_agree
  show PP bb w D pm_110 (0, [(0, .ref 181), (1, .int (i32 v1)), (2, .int (i32 v2))], [], (khp (mO m [] []) c, N), 0, 0) _
  refine P_ld 1 (.int (i32 v2)) rfl (fun _ => rfl) ?_
  refine P_ld 2 (.int (i32 (-1))) rfl (fun _ => rfl) ?_
  refine P_icF 39 5 rfl rfl rfl q2 (l32 (-1) rfl) rfl (fun h12 => ?_) (fun h12 => ?_)
  · skip
    exact dg_fm_agree_39 w c N D bb v1 v2 q1 q2 m hm (jk [])
  · skip
    refine P_ld 6 (.ref 181) rfl (fun _ => rfl) ?_
    refine PK_gf 9 (.ref 22) rfl rfl kd_181 rfl rfl rfl ?_
    refine PK_gf 12 (.ref 23) rfl rfl kd_22 rfl rfl rfl ?_
    refine P_ld 13 (.int (i32 v1)) rfl (fun _ => rfl) ?_
    refine PK_iald2 14 18 (m.2 18) rfl rfl rfl q1 rfl ?_
    refine P_ld 17 (.int (i32 257)) rfl (fun _ => rfl) ?_
    refine P_icE 39 20 rfl rfl rfl (kE_i (KCn_a hm 18) rfl _) (l32 257 rfl) rfl (fun h13 => ?_) (fun h13 => ?_)
    · skip
      refine P_ld 21 (.ref 181) rfl (fun _ => rfl) ?_
      refine PK_gf 24 (.ref 22) rfl rfl kd_181 rfl rfl rfl ?_
      refine PK_gf 27 (.ref 23) rfl rfl kd_22 rfl rfl rfl ?_
      refine P_ld 28 (.int (i32 v2)) rfl (fun _ => rfl) ?_
      refine PK_iald2 29 18 (m.2 18) rfl rfl rfl q2 rfl ?_
      refine P_ld 32 (.int (i32 257)) rfl (fun _ => rfl) ?_
      refine P_icF 39 35 rfl rfl rfl (kE_i (KCn_a hm 18) rfl _) (l32 257 rfl) rfl (fun h14 => ?_) (fun h14 => ?_)
      · skip
        exact dg_fm_agree_39 w c N D bb v1 v2 q1 q2 m hm (jk [])
      · skip
        refine P_ld 36 (.int (i32 1)) rfl (fun _ => rfl) ?_
        refine P_goto 40 rfl (fun _ => rfl) ?_
        exact dg_fm_agree_40 w c N D bb v1 v2 1 q1 q2 (l32 1 rfl) m hm (jk [])
    · skip
      exact dg_fm_agree_39 w c N D bb v1 v2 q1 q2 m hm (jk [])
end X28G
