noncomputable section X28P
def cs_pw_read_46 (s : Int × Int × mR) : Prop := R32 s.1 ∧ R32 s.2.1 ∧ KCn s.2.2
def cx_pw_read_46 : (Sum (mR) (Int × mR)) → Prop := (sel (fun (e : mR) => KCn e) (fun (e : Int × mR) => False))
def hd_pw_read_46 (c : Nat → Option am_C) (N : Nat) (s : Int × Int × mR) (j : Nat → Int) : ag_St af_T := (46, [(0, .ref 0), (1, .int (i32 (j 1))), (2, .int (i32 s.1)), (3, .int (i32 s.2.1))], [], (khp s.2.2 c, N), 0, 0)
def ex_pw_read_46 (c : Nat → Option am_C) (N : Nat) : (Sum (mR) (Int × mR)) → (Nat → Int) → ag_St af_T := (sel (fun (e : mR) (j : Nat → Int) => ((202, [(0, .ref 0), (1, .int (i32 (j 1))), (2, .int (i32 (j 2))), (3, .int (i32 (j 3)))], [], (khp e c, N), 0, 0) : ag_St af_T)) (fun (e : Int × mR) (j : Nat → Int) => ((0, [], [], (khp e.2 c, N), 0, 0) : ag_St af_T)))
def tx_pw_read_46 (c : Nat → Option am_C) (N : Nat) : (Sum (mR) (Int × mR)) → ag_Re af_T → Prop := (sel (fun (_ : mR) (_ : ag_Re af_T) => False) (fun (e : Int × mR) (r : ag_Re af_T) => ∃ x : Nat, e.1 = x + 1 ∧ KCn e.2 ∧ r = (.inr x, (khp e.2 c, N), 1, 6)))
def cs_pw_read_211 (s : Int × mR) : Prop := R32 s.1 ∧ KCn s.2
def cx_pw_read_211 : (Sum (mR) (Int × mR)) → Prop := (sel (fun (e : mR) => KCn e) (fun (e : Int × mR) => False))
def hd_pw_read_211 (c : Nat → Option am_C) (N : Nat) (s : Int × mR) (j : Nat → Int) : ag_St af_T := (211, [(0, .ref 0), (1, .int (i32 (j 1))), (2, .int (i32 (j 2))), (3, .int (i32 s.1))], [], (khp s.2 c, N), 0, 0)
def ex_pw_read_211 (c : Nat → Option am_C) (N : Nat) : (Sum (mR) (Int × mR)) → (Nat → Int) → ag_St af_T := (sel (fun (e : mR) (j : Nat → Int) => ((241, [(0, .ref 0), (1, .int (i32 (j 1))), (2, .int (i32 (j 2))), (3, .int (i32 (j 3)))], [], (khp e c, N), 0, 0) : ag_St af_T)) (fun (e : Int × mR) (j : Nat → Int) => ((0, [], [], (khp e.2 c, N), 0, 0) : ag_St af_T)))
def tx_pw_read_211 (c : Nat → Option am_C) (N : Nat) : (Sum (mR) (Int × mR)) → ag_Re af_T → Prop := (sel (fun (_ : mR) (_ : ag_Re af_T) => False) (fun (e : Int × mR) (r : ag_Re af_T) => ∃ x : Nat, e.1 = x + 1 ∧ KCn e.2 ∧ r = (.inr x, (khp e.2 c, N), 1, 6)))
def kfl_pw_read_241 (m : mR) : Option (Int × Int × mR) :=
  bnd (kf_rd_emit m) fun y3 =>
  if y3.1 = 0 then
    bnd (kf_rd_close y3.2.2) fun y6 =>
    if y6.1 = 0 then
      some (0, y6.2.2.1 220, (mO y6.2.2 [(201, 1)] []))
    else
      some (y6.1, 0, y6.2.2)
  else
    some (y3.1, 0, y3.2.2)
theorem dg_pw_read_241 (w : wX) (c : Nat → Option am_C) (N D : Nat) (bb : Nat) (m : mR) (hm : KCn m) (j : Nat → Int) : PP bb w D pm_43 (241, [(0, .ref 0), (1, .int (i32 (j 1))), (2, .int (i32 (j 2))), (3, .int (i32 (j 3)))], [], (khp m c, N), 0, 0) (QS (FX1 c N) (kfl_pw_read_241 m)) := by
  unfold kfl_pw_read_241
  show PP bb w D pm_43 (241, [(0, .ref 0), (1, .int (i32 (j 1))), (2, .int (i32 (j 2))), (3, .int (i32 (j 3)))], [], (khp (mO m [] []) c, N), 0, 0) _
  refine P_ld 242 (.ref 0) rfl (fun _ => rfl) ?_
  refine PK_gf 245 (.ref 178) rfl rfl kd_0 rfl rfl rfl ?_
  refine P_cx0 248 143 [.ref 178] [] rfl (fun _ => rfl) rfl rfl (D_rd_emit w m c N D hm) (fun y x hm e => ⟨_, rfl, hm, Or.inr ⟨x, e, rfl⟩⟩) (fun y3 n5 => ?_)
  refine P_ld 249 (.ref 0) rfl (fun _ => rfl) ?_
  refine PK_gf 252 (.ref 178) rfl rfl kd_0 rfl rfl rfl ?_
  refine P_cx0 255 144 [.ref 178] [] rfl (fun _ => rfl) rfl rfl (D_rd_close w y3.2.2 c N D n5) (fun y x hm e => ⟨_, rfl, hm, Or.inr ⟨x, e, rfl⟩⟩) (fun y6 n8 => ?_)
  refine P_ld 256 (.ref 0) rfl (fun _ => rfl) ?_
  refine P_ld 257 (.int (i32 1)) rfl (fun _ => rfl) ?_
  refine PK_pf (l' := [(201, 1)]) 260 1 rfl rfl kd_0 rfl rfl rfl rfl rfl rfl rfl ?_
  refine P_ld 261 (.ref 0) rfl (fun _ => rfl) ?_
  refine PK_gf 264 (.ref 12) rfl rfl kd_0 rfl rfl rfl ?_
  refine PK_gf 267 (.ref 22) rfl rfl kd_12 rfl rfl rfl ?_
  refine PK_gf 270 (.int (i32 (y6.2.2.1 220))) rfl rfl kd_22 rfl rfl rfl ?_
  exact P_rx1 rfl (KCn_i n8 220 rfl) (KCn_mO n8 rfl rfl ⟨(kV_i rfl (l32 1 rfl)), trivial⟩ trivial)
def kfb_pw_read_211 (s : Int × mR) : Option (Sum (Int × mR) (Sum (mR) (Int × mR))) :=
  if (4000 : Int) < s.1 then
    some (.inr (.inl s.2))
  else
    if s.2.1 227 ≤ 0 then
      some (.inr (.inl s.2))
    else
      bnd (kf_rd_inBlock s.2) fun y12 =>
      if y12.1 = 0 then
        some (.inl (cut (s.1 + 1), y12.2.2))
      else
        some (.inr (.inr (y12.1, y12.2.2)))
theorem dh_pw_read_211 (w : wX) (c : Nat → Option am_C) (N D : Nat) (bb : Nat) (Q2 : Sum (Int × mR) (Sum (mR) (Int × mR)) → ag_Re af_T → Prop) (H1 : ∀ s j, cs_pw_read_211 s → PP bb w D pm_43 (hd_pw_read_211 c N s j) (Q2 (.inl s))) (H2 : ∀ x j, cx_pw_read_211 x → PP bb w D pm_43 (ex_pw_read_211 c N x j) (Q2 (.inr x))) (H3 : ∀ x r, tx_pw_read_211 c N x r → Q2 (.inr x) r) (s : Int × mR) (j : Nat → Int) (hs : cs_pw_read_211 s) : PP (bb + 1) w D pm_43 (hd_pw_read_211 c N s j) (QS Q2 (kfb_pw_read_211 s)) := by
  obtain ⟨g3, gm⟩ := hs
  unfold kfb_pw_read_211
  show PP (bb + 1) w D pm_43 (211, [(0, .ref 0), (1, .int (i32 (j 1))), (2, .int (i32 (j 2))), (3, .int (i32 s.1))], [], (khp (mO s.2 [] []) c, N), 0, 0) _
  refine P1_ld 212 (.int (i32 s.1)) rfl (fun _ => rfl) ?_
  refine P_ld 215 (.int (i32 4000)) rfl (fun _ => rfl) ?_
  refine P_icF 241 218 rfl rfl rfl g3 (l32 4000 rfl) rfl (fun h10 => ?_) (fun h10 => ?_)
  · skip
    refine P_some ?_
    exact H2 (.inl s.2) (jk [(1, j 1), (2, j 2), (3, s.1)]) gm
  · skip
    refine P_ld 219 (.ref 0) rfl (fun _ => rfl) ?_
    refine PK_gf 222 (.ref 178) rfl rfl kd_0 rfl rfl rfl ?_
    refine PK_gf 225 (.int (i32 (s.2.1 227))) rfl rfl kd_178 rfl rfl rfl ?_
    refine P_ifF 241 228 rfl rfl rfl (KCn_i gm 227 rfl) rfl (fun h11 => ?_) (fun h11 => ?_)
    · skip
      refine P_some ?_
      exact H2 (.inl s.2) (jk [(1, j 1), (2, j 2), (3, s.1)]) gm
    · skip
      refine P_ld 229 (.ref 0) rfl (fun _ => rfl) ?_
      refine PK_gf 232 (.ref 178) rfl rfl kd_0 rfl rfl rfl ?_
      refine P_cx0 235 137 [.ref 178] [] rfl (fun _ => rfl) rfl rfl (D_rd_inBlock w s.2 c N D gm) (fun y x hm e => ⟨_, rfl, H3 _ _ ⟨x, e, hm, rfl⟩⟩) (fun y12 n14 => ?_)
      refine P_inc 238 [(3, .int (i32 (cut (s.1 + 1)))), (0, .ref 0), (1, .int (i32 (j 1))), (2, .int (i32 (j 2)))] rfl rfl (by decide) rfl rfl ?_
      refine P_goto 211 rfl (fun _ => rfl) ?_
      refine P_some ?_
      refine P_lv (b := [(0, .ref 0), (1, .int (i32 (j 1))), (2, .int (i32 (j 2))), (3, .int (i32 (cut (s.1 + 1))))]) rfl rfl ⟨rfl, rfl, rfl, rfl, trivial⟩ ?_
      exact H1 (cut (s.1 + 1), y12.2.2) (jk [(1, j 1), (2, j 2)]) ⟨cut_r, n14⟩
def kfl_pw_read_202 (m : mR) : Option (Int × Int × mR) :=
  bnd (kf_rd_openControl m) fun y15 =>
  if y15.1 = 0 then
    bnd (whl kfb_pw_read_211 (0, y15.2.2)) (sel
      (fun e18 : mR =>
        kfl_pw_read_241 e18)
      (fun e21 : Int × mR =>
        some (e21.1, 0, e21.2)))
  else
    some (y15.1, 0, y15.2.2)
theorem dg_pw_read_202 (w : wX) (c : Nat → Option am_C) (N D : Nat) (bb : Nat) (m : mR) (hm : KCn m) (j : Nat → Int) : PP bb w D pm_43 (202, [(0, .ref 0), (1, .int (i32 (j 1))), (2, .int (i32 (j 2))), (3, .int (i32 (j 3)))], [], (khp m c, N), 0, 0) (QS (FX1 c N) (kfl_pw_read_202 m)) := by
  unfold kfl_pw_read_202
  show PP bb w D pm_43 (202, [(0, .ref 0), (1, .int (i32 (j 1))), (2, .int (i32 (j 2))), (3, .int (i32 (j 3)))], [], (khp (mO m [] []) c, N), 0, 0) _
  refine P_ld 203 (.ref 0) rfl (fun _ => rfl) ?_
  refine PK_gf 206 (.ref 178) rfl rfl kd_0 rfl rfl rfl ?_
  refine P_cx0 209 136 [.ref 178] [] rfl (fun _ => rfl) rfl rfl (D_rd_openControl w m c N D hm) (fun y x hm e => ⟨_, rfl, hm, Or.inr ⟨x, e, rfl⟩⟩) (fun y15 n17 => ?_)
  refine P_ld 210 (.int (i32 0)) rfl (fun _ => rfl) ?_
  refine P_sto 211 [(3, .int (i32 0)), (0, .ref 0), (1, .int (i32 (j 1))), (2, .int (i32 (j 2)))] rfl (fun _ => rfl) ?_
  refine P_lv (b := [(0, .ref 0), (1, .int (i32 (j 1))), (2, .int (i32 (j 2))), (3, .int (i32 0))]) rfl rfl ⟨rfl, rfl, rfl, rfl, trivial⟩ ?_
  refine P_bnd ?_
  refine P_whlx (TX := tx_pw_read_211 c N) (fun bb Q2 H1 H2 H3 s9 j9 hs9 => dh_pw_read_211 w c N D bb Q2 H1 H2 H3 s9 j9 hs9) bb (fun x r hr => ?_) (fun x0 j hx0 => ?_) (0, y15.2.2) (jk [(1, j 1), (2, j 2)]) ⟨(l32 0 rfl), n17⟩
  · skip
    cases x with
    | inl e => exact False.elim hr
    | inr x =>
      obtain ⟨x9, e9, k9, rfl⟩ := hr
      exact ⟨_, rfl, k9, Or.inr ⟨x9, e9, rfl⟩⟩
  cases x0 with
  | inl e18 =>
    have q19 := hx0
    have q20 := q19
    show PP bb w D pm_43 (241, [(0, .ref 0), (1, .int (i32 (j 1))), (2, .int (i32 (j 2))), (3, .int (i32 (j 3)))], [], (khp (mO e18 [] []) c, N), 0, 0) (QS _ (kfl_pw_read_241 e18))
    exact dg_pw_read_241 w c N D bb e18 q20 (jk [(1, j 1), (2, j 2), (3, j 3)])
  | inr e21 =>
    have q22 := hx0
    have q22 := q22
    exact False.elim q22
def kfl_pw_read_196 (v2 : Int) (v3 : Int) (m : mR) : Option (Sum (Int × Int × mR) (Sum (mR) (Int × mR))) :=
  some (.inl (v2, cut (v3 + 1), m))
theorem dg_pw_read_196 (w : wX) (c : Nat → Option am_C) (N D : Nat) (bb : Nat) (v2 : Int) (v3 : Int) (q2 : R32 v2) (q3 : R32 v3) (m : mR) (hm : KCn m) (j : Nat → Int) (Q2 : Sum (Int × Int × mR) (Sum (mR) (Int × mR)) → ag_Re af_T → Prop) (H1 : ∀ s j, cs_pw_read_46 s → PP bb w D pm_43 (hd_pw_read_46 c N s j) (Q2 (.inl s))) (H2 : ∀ x j, cx_pw_read_46 x → PP bb w D pm_43 (ex_pw_read_46 c N x j) (Q2 (.inr x))) (H3 : ∀ x r, tx_pw_read_46 c N x r → Q2 (.inr x) r) : PP bb w D pm_43 (196, [(0, .ref 0), (1, .int (i32 (j 1))), (2, .int (i32 v2)), (3, .int (i32 v3))], [], (khp m c, N), 0, 0) (QS Q2 (kfl_pw_read_196 v2 v3 m)) := by
  unfold kfl_pw_read_196
  show PP bb w D pm_43 (196, [(0, .ref 0), (1, .int (i32 (j 1))), (2, .int (i32 v2)), (3, .int (i32 v3))], [], (khp (mO m [] []) c, N), 0, 0) _
  refine P_inc 199 [(3, .int (i32 (cut (v3 + 1)))), (0, .ref 0), (1, .int (i32 (j 1))), (2, .int (i32 v2))] rfl rfl (by decide) rfl rfl ?_
  refine P_goto 46 rfl (fun _ => rfl) ?_
  refine P_some ?_
  refine P_lv (b := [(0, .ref 0), (1, .int (i32 (j 1))), (2, .int (i32 v2)), (3, .int (i32 (cut (v3 + 1))))]) rfl rfl ⟨rfl, rfl, rfl, rfl, trivial⟩ ?_
  exact H1 (v2, cut (v3 + 1), m) (jk [(1, j 1)]) ⟨q2, cut_r, hm⟩
def kfl_pw_read_194 (v3 : Int) (m : mR) : Option (Sum (Int × Int × mR) (Sum (mR) (Int × mR))) :=
  kfl_pw_read_196 0 v3 m
theorem dg_pw_read_194 (w : wX) (c : Nat → Option am_C) (N D : Nat) (bb : Nat) (v3 : Int) (q3 : R32 v3) (m : mR) (hm : KCn m) (j : Nat → Int) (Q2 : Sum (Int × Int × mR) (Sum (mR) (Int × mR)) → ag_Re af_T → Prop) (H1 : ∀ s j, cs_pw_read_46 s → PP bb w D pm_43 (hd_pw_read_46 c N s j) (Q2 (.inl s))) (H2 : ∀ x j, cx_pw_read_46 x → PP bb w D pm_43 (ex_pw_read_46 c N x j) (Q2 (.inr x))) (H3 : ∀ x r, tx_pw_read_46 c N x r → Q2 (.inr x) r) : PP bb w D pm_43 (194, [(0, .ref 0), (1, .int (i32 (j 1))), (2, .int (i32 (j 2))), (3, .int (i32 v3))], [], (khp m c, N), 0, 0) (QS Q2 (kfl_pw_read_194 v3 m)) := by
  unfold kfl_pw_read_194
  show PP bb w D pm_43 (194, [(0, .ref 0), (1, .int (i32 (j 1))), (2, .int (i32 (j 2))), (3, .int (i32 v3))], [], (khp (mO m [] []) c, N), 0, 0) _
  refine P_ld 195 (.int (i32 0)) rfl (fun _ => rfl) ?_
  refine P_sto 196 [(2, .int (i32 0)), (0, .ref 0), (1, .int (i32 (j 1))), (3, .int (i32 v3))] rfl (fun _ => rfl) ?_
  refine P_lv (b := [(0, .ref 0), (1, .int (i32 (j 1))), (2, .int (i32 0)), (3, .int (i32 v3))]) rfl rfl ⟨rfl, rfl, rfl, rfl, trivial⟩ ?_
  exact dg_pw_read_196 w c N D bb 0 v3 (l32 0 rfl) q3 m hm (jk [(1, j 1)]) Q2 H1 H2 H3
def kfb_pw_read_46 (s : Int × Int × mR) : Option (Sum (Int × Int × mR) (Sum (mR) (Int × mR))) :=
  if (4000 : Int) < s.2.1 then
    some (.inr (.inl s.2.2))
  else
    if s.1 = 0 then
      some (.inr (.inl s.2.2))
    else
      if s.2.2.1 206 = 300 then
        bnd (kf_rd_header s.2.2) fun y27 =>
        if y27.1 = 0 then
          kfl_pw_read_196 s.1 s.2.1 y27.2.2
        else
          some (.inr (.inr (y27.1, y27.2.2)))
      else
        if s.2.2.1 206 = 301 then
          bnd (kf_rd_instance s.2.2) fun y31 =>
          if y31.1 = 0 then
            kfl_pw_read_196 s.1 s.2.1 y31.2.2
          else
            some (.inr (.inr (y31.1, y31.2.2)))
        else
          if s.2.2.1 206 = 302 then
            bnd (kf_rd_meta s.2.2) fun y35 =>
            if y35.1 = 0 then
              kfl_pw_read_196 s.1 s.2.1 y35.2.2
            else
              some (.inr (.inr (y35.1, y35.2.2)))
          else
            if s.2.2.1 206 = 303 then
              bnd (kf_rd_array s.2.2) fun y39 =>
              if y39.1 = 0 then
                kfl_pw_read_196 s.1 s.2.1 y39.2.2
              else
                some (.inr (.inr (y39.1, y39.2.2)))
            else
              if s.2.2.1 206 = 304 then
                bnd (kf_rd_state s.2.2) fun y43 =>
                if y43.1 = 0 then
                  kfl_pw_read_196 s.1 s.2.1 y43.2.2
                else
                  some (.inr (.inr (y43.1, y43.2.2)))
              else
                if s.2.2.1 206 = 309 then
                  bnd (kf_rd_action s.2.2) fun y47 =>
                  if y47.1 = 0 then
                    kfl_pw_read_196 s.1 s.2.1 y47.2.2
                  else
                    some (.inr (.inr (y47.1, y47.2.2)))
                else
                  if s.2.2.1 206 = 310 then
                    bnd (kf_rd_table s.2.2) fun y51 =>
                    if y51.1 = 0 then
                      kfl_pw_read_196 s.1 s.2.1 y51.2.2
                    else
                      some (.inr (.inr (y51.1, y51.2.2)))
                  else
                    if s.2.2.1 206 = 305 then
                      kfl_pw_read_194 s.2.1 s.2.2
                    else
                      if s.2.2.1 206 = 306 then
                        kfl_pw_read_194 s.2.1 s.2.2
                      else
                        if s.2.2.1 206 = 307 then
                          kfl_pw_read_194 s.2.1 s.2.2
                        else
                          if s.2.2.1 206 = 308 then
                            kfl_pw_read_194 s.2.1 s.2.2
                          else
                            kfl_pw_read_194 s.2.1 s.2.2
theorem dh_pw_read_46 (w : wX) (c : Nat → Option am_C) (N D : Nat) (bb : Nat) (Q2 : Sum (Int × Int × mR) (Sum (mR) (Int × mR)) → ag_Re af_T → Prop) (H1 : ∀ s j, cs_pw_read_46 s → PP bb w D pm_43 (hd_pw_read_46 c N s j) (Q2 (.inl s))) (H2 : ∀ x j, cx_pw_read_46 x → PP bb w D pm_43 (ex_pw_read_46 c N x j) (Q2 (.inr x))) (H3 : ∀ x r, tx_pw_read_46 c N x r → Q2 (.inr x) r) (s : Int × Int × mR) (j : Nat → Int) (hs : cs_pw_read_46 s) : PP (bb + 1) w D pm_43 (hd_pw_read_46 c N s j) (QS Q2 (kfb_pw_read_46 s)) := by
  obtain ⟨g2, g3, gm⟩ := hs
  unfold kfb_pw_read_46
  show PP (bb + 1) w D pm_43 (46, [(0, .ref 0), (1, .int (i32 (j 1))), (2, .int (i32 s.1)), (3, .int (i32 s.2.1))], [], (khp (mO s.2.2 [] []) c, N), 0, 0) _
  refine P1_ld 47 (.int (i32 s.2.1)) rfl (fun _ => rfl) ?_
  refine P_ld 50 (.int (i32 4000)) rfl (fun _ => rfl) ?_
  refine P_icF 202 53 rfl rfl rfl g3 (l32 4000 rfl) rfl (fun h24 => ?_) (fun h24 => ?_)
  · skip
    refine P_some ?_
    exact H2 (.inl s.2.2) (jk [(1, j 1), (2, s.1), (3, s.2.1)]) gm
  · skip
    refine P_ld 54 (.int (i32 s.1)) rfl (fun _ => rfl) ?_
    refine P_ifF 202 57 rfl rfl rfl g2 rfl (fun h25 => ?_) (fun h25 => ?_)
    · skip
      refine P_some ?_
      exact H2 (.inl s.2.2) (jk [(1, j 1), (2, s.1), (3, s.2.1)]) gm
    · skip
      refine P_ld 58 (.ref 0) rfl (fun _ => rfl) ?_
      refine PK_gf 61 (.ref 6) rfl rfl kd_0 rfl rfl rfl ?_
      refine PK_gf 64 (.int (i32 (s.2.2.1 206))) rfl rfl kd_6 rfl rfl rfl ?_
      refine P_cs (fun h26 => ?_) (fun h26 => ?_)
      · skip
        refine P_cast 300 h26 ?_
        refine P_pop 124 rfl (fun _ => rfl) ?_
        refine P_ld 125 (.ref 0) rfl (fun _ => rfl) ?_
        refine PK_gf 128 (.ref 178) rfl rfl kd_0 rfl rfl rfl ?_
        refine P_cx0 131 74 [.ref 178] [] rfl (fun _ => rfl) rfl rfl (D_rd_header w s.2.2 c N D gm) (fun y x hm e => ⟨_, rfl, H3 _ _ ⟨x, e, hm, rfl⟩⟩) (fun y27 n29 => ?_)
        refine P_goto 196 rfl (fun _ => rfl) ?_
        exact dg_pw_read_196 w c N D bb s.1 s.2.1 g2 g3 y27.2.2 n29 (jk [(1, j 1)]) Q2 H1 H2 H3
      · skip
        refine P_cs (fun h30 => ?_) (fun h30 => ?_)
        · skip
          refine P_cast 301 h30 ?_
          refine P_pop 134 rfl (fun _ => rfl) ?_
          refine P_ld 135 (.ref 0) rfl (fun _ => rfl) ?_
          refine PK_gf 138 (.ref 178) rfl rfl kd_0 rfl rfl rfl ?_
          refine P_cx0 141 82 [.ref 178] [] rfl (fun _ => rfl) rfl rfl (D_rd_instance w s.2.2 c N D gm) (fun y x hm e => ⟨_, rfl, H3 _ _ ⟨x, e, hm, rfl⟩⟩) (fun y31 n33 => ?_)
          refine P_goto 196 rfl (fun _ => rfl) ?_
          exact dg_pw_read_196 w c N D bb s.1 s.2.1 g2 g3 y31.2.2 n33 (jk [(1, j 1)]) Q2 H1 H2 H3
        · skip
          refine P_cs (fun h34 => ?_) (fun h34 => ?_)
          · skip
            refine P_cast 302 h34 ?_
            refine P_pop 144 rfl (fun _ => rfl) ?_
            refine P_ld 145 (.ref 0) rfl (fun _ => rfl) ?_
            refine PK_gf 148 (.ref 178) rfl rfl kd_0 rfl rfl rfl ?_
            refine P_cx0 151 85 [.ref 178] [] rfl (fun _ => rfl) rfl rfl (D_rd_meta w s.2.2 c N D gm) (fun y x hm e => ⟨_, rfl, H3 _ _ ⟨x, e, hm, rfl⟩⟩) (fun y35 n37 => ?_)
            refine P_goto 196 rfl (fun _ => rfl) ?_
            exact dg_pw_read_196 w c N D bb s.1 s.2.1 g2 g3 y35.2.2 n37 (jk [(1, j 1)]) Q2 H1 H2 H3
          · skip
            refine P_cs (fun h38 => ?_) (fun h38 => ?_)
            · skip
              refine P_cast 303 h38 ?_
              refine P_pop 154 rfl (fun _ => rfl) ?_
              refine P_ld 155 (.ref 0) rfl (fun _ => rfl) ?_
              refine PK_gf 158 (.ref 178) rfl rfl kd_0 rfl rfl rfl ?_
              refine P_cx0 161 86 [.ref 178] [] rfl (fun _ => rfl) rfl rfl (D_rd_array w s.2.2 c N D gm) (fun y x hm e => ⟨_, rfl, H3 _ _ ⟨x, e, hm, rfl⟩⟩) (fun y39 n41 => ?_)
              refine P_goto 196 rfl (fun _ => rfl) ?_
              exact dg_pw_read_196 w c N D bb s.1 s.2.1 g2 g3 y39.2.2 n41 (jk [(1, j 1)]) Q2 H1 H2 H3
            · skip
              refine P_cs (fun h42 => ?_) (fun h42 => ?_)
              · skip
                refine P_cast 304 h42 ?_
                refine P_pop 164 rfl (fun _ => rfl) ?_
                refine P_ld 165 (.ref 0) rfl (fun _ => rfl) ?_
                refine PK_gf 168 (.ref 178) rfl rfl kd_0 rfl rfl rfl ?_
                refine P_cx0 171 87 [.ref 178] [] rfl (fun _ => rfl) rfl rfl (D_rd_state w s.2.2 c N D gm) (fun y x hm e => ⟨_, rfl, H3 _ _ ⟨x, e, hm, rfl⟩⟩) (fun y43 n45 => ?_)
                refine P_goto 196 rfl (fun _ => rfl) ?_
                exact dg_pw_read_196 w c N D bb s.1 s.2.1 g2 g3 y43.2.2 n45 (jk [(1, j 1)]) Q2 H1 H2 H3
              · skip
                refine P_cs (fun h46 => ?_) (fun h46 => ?_)
                · skip
                  refine P_cast 309 h46 ?_
                  refine P_pop 174 rfl (fun _ => rfl) ?_
                  refine P_ld 175 (.ref 0) rfl (fun _ => rfl) ?_
                  refine PK_gf 178 (.ref 178) rfl rfl kd_0 rfl rfl rfl ?_
                  refine P_cx0 181 118 [.ref 178] [] rfl (fun _ => rfl) rfl rfl (D_rd_action w s.2.2 c N D gm) (fun y x hm e => ⟨_, rfl, H3 _ _ ⟨x, e, hm, rfl⟩⟩) (fun y47 n49 => ?_)
                  refine P_goto 196 rfl (fun _ => rfl) ?_
                  exact dg_pw_read_196 w c N D bb s.1 s.2.1 g2 g3 y47.2.2 n49 (jk [(1, j 1)]) Q2 H1 H2 H3
                · skip
                  refine P_cs (fun h50 => ?_) (fun h50 => ?_)
                  · skip
                    refine P_cast 310 h50 ?_
                    refine P_pop 184 rfl (fun _ => rfl) ?_
                    refine P_ld 185 (.ref 0) rfl (fun _ => rfl) ?_
                    refine PK_gf 188 (.ref 178) rfl rfl kd_0 rfl rfl rfl ?_
                    refine P_cx0 191 127 [.ref 178] [] rfl (fun _ => rfl) rfl rfl (D_rd_table w s.2.2 c N D gm) (fun y x hm e => ⟨_, rfl, H3 _ _ ⟨x, e, hm, rfl⟩⟩) (fun y51 n53 => ?_)
                    refine P_goto 196 rfl (fun _ => rfl) ?_
                    exact dg_pw_read_196 w c N D bb s.1 s.2.1 g2 g3 y51.2.2 n53 (jk [(1, j 1)]) Q2 H1 H2 H3
                  · skip
                    refine P_cs (fun h54 => ?_) (fun h54 => ?_)
                    · skip
                      refine P_cast 305 h54 ?_
                      refine P_pop 194 rfl (fun _ => rfl) ?_
                      exact dg_pw_read_194 w c N D bb s.2.1 g3 s.2.2 gm (jk [(1, j 1), (2, s.1)]) Q2 H1 H2 H3
                    · skip
                      refine P_cs (fun h55 => ?_) (fun h55 => ?_)
                      · skip
                        refine P_cast 306 h55 ?_
                        refine P_pop 194 rfl (fun _ => rfl) ?_
                        exact dg_pw_read_194 w c N D bb s.2.1 g3 s.2.2 gm (jk [(1, j 1), (2, s.1)]) Q2 H1 H2 H3
                      · skip
                        refine P_cs (fun h56 => ?_) (fun h56 => ?_)
                        · skip
                          refine P_cast 307 h56 ?_
                          refine P_pop 194 rfl (fun _ => rfl) ?_
                          exact dg_pw_read_194 w c N D bb s.2.1 g3 s.2.2 gm (jk [(1, j 1), (2, s.1)]) Q2 H1 H2 H3
                        · skip
                          refine P_cs (fun h57 => ?_) (fun h57 => ?_)
                          · skip
                            refine P_cast 308 h57 ?_
                            refine P_pop 194 rfl (fun _ => rfl) ?_
                            exact dg_pw_read_194 w c N D bb s.2.1 g3 s.2.2 gm (jk [(1, j 1), (2, s.1)]) Q2 H1 H2 H3
                          · skip
                            refine P_tsd 194 rfl rfl (KCn_i gm 206 rfl) (by omega) ?_
                            exact dg_pw_read_194 w c N D bb s.2.1 g3 s.2.2 gm (jk [(1, j 1), (2, s.1)]) Q2 H1 H2 H3
def kf_pw_read (m : mR) : Option (Int × Int × mR) :=
  bnd (kf_pr_clear (mO m [(200, 0), (201, 0), (202, (-1))] [])) fun y58 =>
  bnd (kf_pi_clear y58.2) fun y61 =>
  bnd (kf_tx_open (m.1 200) y61.2) fun y64 =>
  if y64.1 = 0 then
    bnd (whl kfb_pw_read_46 (1, 0, y64.2.2)) (sel
      (fun e67 : mR =>
        kfl_pw_read_202 e67)
      (fun e70 : Int × mR =>
        some (e70.1, 0, e70.2)))
  else
    some (y64.1, 0, y64.2.2)
theorem D_pw_read (w : wX) (m : mR) (c : Nat → Option am_C) (N D : Nat) (hm : KCn m) : PC w D 43 [.ref 0] (khp m c, N) (QS (FX1 c N) (kf_pw_read m)) := by
  refine Pc_of (fun D bb => ?_) D
  unfold kf_pw_read
  show PP bb w D pm_43 (0, [(0, .ref 0)], [], (khp (mO m [] []) c, N), 0, 0) _
  refine P_ld 1 (.ref 0) rfl (fun _ => rfl) ?_
  refine PK_gf 4 (.int (i32 (m.1 200))) rfl rfl kd_0 rfl rfl rfl ?_
  refine P_sto 5 [(1, .int (i32 (m.1 200))), (0, .ref 0)] rfl (fun _ => rfl) ?_
  refine P_ld 6 (.ref 0) rfl (fun _ => rfl) ?_
  refine P_ld 7 (.int (i32 0)) rfl (fun _ => rfl) ?_
  refine PK_pf (l' := [(200, 0)]) 10 0 rfl rfl kd_0 rfl rfl rfl rfl rfl rfl rfl ?_
  refine P_ld 11 (.ref 0) rfl (fun _ => rfl) ?_
  refine P_ld 12 (.int (i32 0)) rfl (fun _ => rfl) ?_
  refine PK_pf (l' := [(200, 0), (201, 0)]) 15 0 rfl rfl kd_0 rfl rfl rfl rfl rfl rfl rfl ?_
  refine P_ld 16 (.ref 0) rfl (fun _ => rfl) ?_
  refine P_ld 17 (.int (i32 (-1))) rfl (fun _ => rfl) ?_
  refine PK_pf (l' := [(200, 0), (201, 0), (202, (-1))]) 20 (-1) rfl rfl kd_0 rfl rfl rfl rfl rfl rfl rfl ?_
  refine P_ld 21 (.ref 0) rfl (fun _ => rfl) ?_
  refine PK_gf 24 (.ref 12) rfl rfl kd_0 rfl rfl rfl ?_
  refine P_ck0 27 44 [.ref 12] [] rfl (fun _ => rfl) rfl (D_pr_clear w (mO m [(200, 0), (201, 0), (202, (-1))] []) c N D (KCn_mO hm rfl rfl ⟨(kV_i rfl (l32 0 rfl)), (kV_i rfl (l32 0 rfl)), (kV_i rfl (l32 (-1) rfl)), trivial⟩ trivial)) (fun y58 n60 => ?_)
  refine P_ld 28 (.ref 0) rfl (fun _ => rfl) ?_
  refine PK_gf 31 (.ref 185) rfl rfl kd_0 rfl rfl rfl ?_
  refine P_ck0 34 45 [.ref 185] [] rfl (fun _ => rfl) rfl (D_pi_clear w y58.2 c N D n60) (fun y61 n63 => ?_)
  refine P_ld 35 (.ref 0) rfl (fun _ => rfl) ?_
  refine PK_gf 38 (.ref 6) rfl rfl kd_0 rfl rfl rfl ?_
  refine P_ld 39 (.int (i32 (m.1 200))) rfl (fun _ => rfl) ?_
  refine P_cx0 42 47 [.ref 6, .int (i32 (m.1 200))] [] rfl (fun _ => rfl) rfl rfl (D_tx_open w y61.2 c N D n63 (m.1 200) (KCn_i hm 200 rfl)) (fun y x hm e => ⟨_, rfl, hm, Or.inr ⟨x, e, rfl⟩⟩) (fun y64 n66 => ?_)
  refine P_ld 43 (.int (i32 1)) rfl (fun _ => rfl) ?_
  refine P_sto 44 [(2, .int (i32 1)), (1, .int (i32 (m.1 200))), (0, .ref 0)] rfl (fun _ => rfl) ?_
  refine P_ld 45 (.int (i32 0)) rfl (fun _ => rfl) ?_
  refine P_sto 46 [(3, .int (i32 0)), (2, .int (i32 1)), (1, .int (i32 (m.1 200))), (0, .ref 0)] rfl (fun _ => rfl) ?_
  refine P_lv (b := [(0, .ref 0), (1, .int (i32 (m.1 200))), (2, .int (i32 1)), (3, .int (i32 0))]) rfl rfl ⟨rfl, rfl, rfl, rfl, trivial⟩ ?_
  refine P_bnd ?_
  refine P_whlx (TX := tx_pw_read_46 c N) (fun bb Q2 H1 H2 H3 s9 j9 hs9 => dh_pw_read_46 w c N D bb Q2 H1 H2 H3 s9 j9 hs9) bb (fun x r hr => ?_) (fun x0 j hx0 => ?_) (1, 0, y64.2.2) (jk [(1, m.1 200)]) ⟨(l32 1 rfl), (l32 0 rfl), n66⟩
  · skip
    cases x with
    | inl e => exact False.elim hr
    | inr x =>
      obtain ⟨x9, e9, k9, rfl⟩ := hr
      exact ⟨_, rfl, k9, Or.inr ⟨x9, e9, rfl⟩⟩
  cases x0 with
  | inl e67 =>
    have q68 := hx0
    have q69 := q68
    show PP bb w D pm_43 (202, [(0, .ref 0), (1, .int (i32 (j 1))), (2, .int (i32 (j 2))), (3, .int (i32 (j 3)))], [], (khp (mO e67 [] []) c, N), 0, 0) (QS _ (kfl_pw_read_202 e67))
    exact dg_pw_read_202 w c N D bb e67 q69 (jk [(1, j 1), (2, j 2), (3, j 3)])
  | inr e70 =>
    have q71 := hx0
    have q71 := q71
    exact False.elim q71
def cs_Arrays_fill0_b63_5 (s : Int × mR) : Prop := R32 s.1 ∧ KCn s.2
def cx_Arrays_fill0_b63_5 : (mR) → Prop := (fun (e : mR) => KCn e)
def hd_Arrays_fill0_b63_5 (c : Nat → Option am_C) (N : Nat) (v1 : Int) (v3 : Int) (s : Int × mR) (j : Nat → Int) : ag_St af_T := (5, [(0, .ref 71), (1, .int (i32 v1)), (2, .int (i32 s.1)), (3, .int (i32 v3))], [], (khp s.2 c, N), 0, 0)
def ex_Arrays_fill0_b63_5 (c : Nat → Option am_C) (N : Nat) (v1 : Int) (v3 : Int) : (mR) → (Nat → Int) → ag_St af_T := (fun (e : mR) (j : Nat → Int) => ((20, [(0, .ref 71), (1, .int (i32 (j 1))), (2, .int (i32 (j 2))), (3, .int (i32 (j 3)))], [], (khp e c, N), 0, 0) : ag_St af_T))
def kfb_Arrays_fill0_b63_5 (v1 : Int) (v3 : Int) (s : Int × mR) : Option (Sum (Int × mR) (mR)) :=
  if v3 ≤ s.1 then
    some (.inr s.2)
  else
    some (.inl (cut (s.1 + 1), (mO s.2 [] [(63, upI (s.2.2 63) s.1 v1)])))
theorem dh_Arrays_fill0_b63_5 (w : wX) (c : Nat → Option am_C) (N D : Nat) (v1 : Int) (v3 : Int) (q1 : R32 v1) (q3 : R32 v3) (bb : Nat) (Q2 : Sum (Int × mR) (mR) → ag_Re af_T → Prop) (H1 : ∀ s j, cs_Arrays_fill0_b63_5 s → PP bb w D pm_25 (hd_Arrays_fill0_b63_5 c N v1 v3 s j) (Q2 (.inl s))) (H2 : ∀ x j, cx_Arrays_fill0_b63_5 x → PP bb w D pm_25 (ex_Arrays_fill0_b63_5 c N v1 v3 x j) (Q2 (.inr x))) (s : Int × mR) (j : Nat → Int) (hs : cs_Arrays_fill0_b63_5 s) : PP (bb + 1) w D pm_25 (hd_Arrays_fill0_b63_5 c N v1 v3 s j) (QS Q2 (kfb_Arrays_fill0_b63_5 v1 v3 s)) := by
  obtain ⟨g2, gm⟩ := hs
  unfold kfb_Arrays_fill0_b63_5
  show PP (bb + 1) w D pm_25 (5, [(0, .ref 71), (1, .int (i32 v1)), (2, .int (i32 s.1)), (3, .int (i32 v3))], [], (khp (mO s.2 [] []) c, N), 0, 0) _
  refine P1_ld 6 (.int (i32 s.1)) rfl (fun _ => rfl) ?_
  refine P_ld 7 (.int (i32 v3)) rfl (fun _ => rfl) ?_
  refine P_icF 20 10 rfl rfl rfl g2 q3 rfl (fun h3 => ?_) (fun h3 => ?_)
  · skip
    refine P_some ?_
    exact H2 s.2 (jk [(1, v1), (2, s.1), (3, v3)]) gm
  · skip
    refine P_ld 11 (.ref 71) rfl (fun _ => rfl) ?_
    refine P_ld 12 (.int (i32 s.1)) rfl (fun _ => rfl) ?_
    refine P_ld 13 (.int (i32 v1)) rfl (fun _ => rfl) ?_
    refine PK_iast2 (a' := [(63, upI (s.2.2 63) s.1 v1)]) 14 63 (s.2.2 63) rfl rfl rfl g2 rfl rfl ?_
    refine P_inc 17 [(2, .int (i32 (cut (s.1 + 1)))), (0, .ref 71), (1, .int (i32 v1)), (3, .int (i32 v3))] rfl rfl (by decide) rfl rfl ?_
    refine P_goto 5 rfl (fun _ => rfl) ?_
    refine P_some ?_
    refine P_lv (b := [(0, .ref 71), (1, .int (i32 v1)), (2, .int (i32 (cut (s.1 + 1)))), (3, .int (i32 v3))]) rfl rfl ⟨rfl, rfl, rfl, rfl, trivial⟩ ?_
    exact H1 (cut (s.1 + 1), (mO s.2 [] [(63, upI (s.2.2 63) s.1 v1)])) (jk []) ⟨cut_r, (KCn_mO gm rfl rfl trivial ⟨(kE_ui (KCn_a gm 63) rfl q1), trivial⟩)⟩
def kf_Arrays_fill0_b63 (v1 : Int) (m : mR) : Option (Int × mR) :=
  bnd (whl (kfb_Arrays_fill0_b63_5 v1 12) (0, m)) (fun e4 : mR =>
    some (0, e4))
theorem D_Arrays_fill0_b63 (w : wX) (m : mR) (c : Nat → Option am_C) (N D : Nat) (hm : KCn m) (v1 : Int) (q1 : R32 v1) : PC w D 25 [.ref 71, .int (i32 v1)] (khp m c, N) (QS (FK0 c N) (kf_Arrays_fill0_b63 v1 m)) := by
  refine Pc_of (fun D bb => ?_) D
  unfold kf_Arrays_fill0_b63
  show PP bb w D pm_25 (0, [(0, .ref 71), (1, .int (i32 v1))], [], (khp (mO m [] []) c, N), 0, 0) _
  refine P_ld 1 (.int (i32 0)) rfl (fun _ => rfl) ?_
  refine P_sto 2 [(2, .int (i32 0)), (0, .ref 71), (1, .int (i32 v1))] rfl (fun _ => rfl) ?_
  refine P_ld 3 (.ref 71) rfl (fun _ => rfl) ?_
  refine P_ld1 4 (.int (i32 12)) rfl (fun _ => rfl) ?_
  refine P_sto 5 [(3, .int (i32 12)), (2, .int (i32 0)), (0, .ref 71), (1, .int (i32 v1))] rfl (fun _ => rfl) ?_
  refine P_lv (b := [(0, .ref 71), (1, .int (i32 v1)), (2, .int (i32 0)), (3, .int (i32 12))]) rfl rfl ⟨rfl, rfl, rfl, rfl, trivial⟩ ?_
  refine P_bnd ?_
  refine P_whl (fun bb Q2 H1 H2 s9 j9 hs9 => dh_Arrays_fill0_b63_5 w c N D v1 12 q1 (l32 12 rfl) bb Q2 H1 H2 s9 j9 hs9) bb (fun e4 j q5 => ?_) (0, m) (jk []) ⟨(l32 0 rfl), hm⟩
  have q6 := q5
  show PP bb w D pm_25 (20, [(0, .ref 71), (1, .int (i32 (j 1))), (2, .int (i32 (j 2))), (3, .int (i32 (j 3)))], [], (khp (mO e4 [] []) c, N), 0, 0) (QS _ (some (0, e4)))
  exact P_rk0 rfl rfl q6
def cs_Arrays_fill0_b64_5 (s : Int × mR) : Prop := R32 s.1 ∧ KCn s.2
def cx_Arrays_fill0_b64_5 : (mR) → Prop := (fun (e : mR) => KCn e)
def hd_Arrays_fill0_b64_5 (c : Nat → Option am_C) (N : Nat) (v1 : Int) (v3 : Int) (s : Int × mR) (j : Nat → Int) : ag_St af_T := (5, [(0, .ref 72), (1, .int (i32 v1)), (2, .int (i32 s.1)), (3, .int (i32 v3))], [], (khp s.2 c, N), 0, 0)
def ex_Arrays_fill0_b64_5 (c : Nat → Option am_C) (N : Nat) (v1 : Int) (v3 : Int) : (mR) → (Nat → Int) → ag_St af_T := (fun (e : mR) (j : Nat → Int) => ((20, [(0, .ref 72), (1, .int (i32 (j 1))), (2, .int (i32 (j 2))), (3, .int (i32 (j 3)))], [], (khp e c, N), 0, 0) : ag_St af_T))
def kfb_Arrays_fill0_b64_5 (v1 : Int) (v3 : Int) (s : Int × mR) : Option (Sum (Int × mR) (mR)) :=
  if v3 ≤ s.1 then
    some (.inr s.2)
  else
    some (.inl (cut (s.1 + 1), (mO s.2 [] [(64, upI (s.2.2 64) s.1 v1)])))
theorem dh_Arrays_fill0_b64_5 (w : wX) (c : Nat → Option am_C) (N D : Nat) (v1 : Int) (v3 : Int) (q1 : R32 v1) (q3 : R32 v3) (bb : Nat) (Q2 : Sum (Int × mR) (mR) → ag_Re af_T → Prop) (H1 : ∀ s j, cs_Arrays_fill0_b64_5 s → PP bb w D pm_25 (hd_Arrays_fill0_b64_5 c N v1 v3 s j) (Q2 (.inl s))) (H2 : ∀ x j, cx_Arrays_fill0_b64_5 x → PP bb w D pm_25 (ex_Arrays_fill0_b64_5 c N v1 v3 x j) (Q2 (.inr x))) (s : Int × mR) (j : Nat → Int) (hs : cs_Arrays_fill0_b64_5 s) : PP (bb + 1) w D pm_25 (hd_Arrays_fill0_b64_5 c N v1 v3 s j) (QS Q2 (kfb_Arrays_fill0_b64_5 v1 v3 s)) := by
  obtain ⟨g2, gm⟩ := hs
  unfold kfb_Arrays_fill0_b64_5
  show PP (bb + 1) w D pm_25 (5, [(0, .ref 72), (1, .int (i32 v1)), (2, .int (i32 s.1)), (3, .int (i32 v3))], [], (khp (mO s.2 [] []) c, N), 0, 0) _
  refine P1_ld 6 (.int (i32 s.1)) rfl (fun _ => rfl) ?_
  refine P_ld 7 (.int (i32 v3)) rfl (fun _ => rfl) ?_
  refine P_icF 20 10 rfl rfl rfl g2 q3 rfl (fun h3 => ?_) (fun h3 => ?_)
  · skip
    refine P_some ?_
    exact H2 s.2 (jk [(1, v1), (2, s.1), (3, v3)]) gm
  · skip
    refine P_ld 11 (.ref 72) rfl (fun _ => rfl) ?_
    refine P_ld 12 (.int (i32 s.1)) rfl (fun _ => rfl) ?_
    refine P_ld 13 (.int (i32 v1)) rfl (fun _ => rfl) ?_
    refine PK_iast2 (a' := [(64, upI (s.2.2 64) s.1 v1)]) 14 64 (s.2.2 64) rfl rfl rfl g2 rfl rfl ?_
    refine P_inc 17 [(2, .int (i32 (cut (s.1 + 1)))), (0, .ref 72), (1, .int (i32 v1)), (3, .int (i32 v3))] rfl rfl (by decide) rfl rfl ?_
    refine P_goto 5 rfl (fun _ => rfl) ?_
    refine P_some ?_
    refine P_lv (b := [(0, .ref 72), (1, .int (i32 v1)), (2, .int (i32 (cut (s.1 + 1)))), (3, .int (i32 v3))]) rfl rfl ⟨rfl, rfl, rfl, rfl, trivial⟩ ?_
    exact H1 (cut (s.1 + 1), (mO s.2 [] [(64, upI (s.2.2 64) s.1 v1)])) (jk []) ⟨cut_r, (KCn_mO gm rfl rfl trivial ⟨(kE_ui (KCn_a gm 64) rfl q1), trivial⟩)⟩
def kf_Arrays_fill0_b64 (v1 : Int) (m : mR) : Option (Int × mR) :=
  bnd (whl (kfb_Arrays_fill0_b64_5 v1 12) (0, m)) (fun e4 : mR =>
    some (0, e4))
theorem D_Arrays_fill0_b64 (w : wX) (m : mR) (c : Nat → Option am_C) (N D : Nat) (hm : KCn m) (v1 : Int) (q1 : R32 v1) : PC w D 25 [.ref 72, .int (i32 v1)] (khp m c, N) (QS (FK0 c N) (kf_Arrays_fill0_b64 v1 m)) := by
  refine Pc_of (fun D bb => ?_) D
  unfold kf_Arrays_fill0_b64
  show PP bb w D pm_25 (0, [(0, .ref 72), (1, .int (i32 v1))], [], (khp (mO m [] []) c, N), 0, 0) _
  refine P_ld 1 (.int (i32 0)) rfl (fun _ => rfl) ?_
  refine P_sto 2 [(2, .int (i32 0)), (0, .ref 72), (1, .int (i32 v1))] rfl (fun _ => rfl) ?_
  refine P_ld 3 (.ref 72) rfl (fun _ => rfl) ?_
  refine P_ld1 4 (.int (i32 12)) rfl (fun _ => rfl) ?_
  refine P_sto 5 [(3, .int (i32 12)), (2, .int (i32 0)), (0, .ref 72), (1, .int (i32 v1))] rfl (fun _ => rfl) ?_
  refine P_lv (b := [(0, .ref 72), (1, .int (i32 v1)), (2, .int (i32 0)), (3, .int (i32 12))]) rfl rfl ⟨rfl, rfl, rfl, rfl, trivial⟩ ?_
  refine P_bnd ?_
  refine P_whl (fun bb Q2 H1 H2 s9 j9 hs9 => dh_Arrays_fill0_b64_5 w c N D v1 12 q1 (l32 12 rfl) bb Q2 H1 H2 s9 j9 hs9) bb (fun e4 j q5 => ?_) (0, m) (jk []) ⟨(l32 0 rfl), hm⟩
  have q6 := q5
  show PP bb w D pm_25 (20, [(0, .ref 72), (1, .int (i32 (j 1))), (2, .int (i32 (j 2))), (3, .int (i32 (j 3)))], [], (khp (mO e4 [] []) c, N), 0, 0) (QS _ (some (0, e4)))
  exact P_rk0 rfl rfl q6
def cs_Arrays_fill0_b65_5 (s : Int × mR) : Prop := R32 s.1 ∧ KCn s.2
def cx_Arrays_fill0_b65_5 : (mR) → Prop := (fun (e : mR) => KCn e)
def hd_Arrays_fill0_b65_5 (c : Nat → Option am_C) (N : Nat) (v1 : Int) (v3 : Int) (s : Int × mR) (j : Nat → Int) : ag_St af_T := (5, [(0, .ref 73), (1, .int (i32 v1)), (2, .int (i32 s.1)), (3, .int (i32 v3))], [], (khp s.2 c, N), 0, 0)
def ex_Arrays_fill0_b65_5 (c : Nat → Option am_C) (N : Nat) (v1 : Int) (v3 : Int) : (mR) → (Nat → Int) → ag_St af_T := (fun (e : mR) (j : Nat → Int) => ((20, [(0, .ref 73), (1, .int (i32 (j 1))), (2, .int (i32 (j 2))), (3, .int (i32 (j 3)))], [], (khp e c, N), 0, 0) : ag_St af_T))
def kfb_Arrays_fill0_b65_5 (v1 : Int) (v3 : Int) (s : Int × mR) : Option (Sum (Int × mR) (mR)) :=
  if v3 ≤ s.1 then
    some (.inr s.2)
  else
    some (.inl (cut (s.1 + 1), (mO s.2 [] [(65, upI (s.2.2 65) s.1 v1)])))
theorem dh_Arrays_fill0_b65_5 (w : wX) (c : Nat → Option am_C) (N D : Nat) (v1 : Int) (v3 : Int) (q1 : R32 v1) (q3 : R32 v3) (bb : Nat) (Q2 : Sum (Int × mR) (mR) → ag_Re af_T → Prop) (H1 : ∀ s j, cs_Arrays_fill0_b65_5 s → PP bb w D pm_25 (hd_Arrays_fill0_b65_5 c N v1 v3 s j) (Q2 (.inl s))) (H2 : ∀ x j, cx_Arrays_fill0_b65_5 x → PP bb w D pm_25 (ex_Arrays_fill0_b65_5 c N v1 v3 x j) (Q2 (.inr x))) (s : Int × mR) (j : Nat → Int) (hs : cs_Arrays_fill0_b65_5 s) : PP (bb + 1) w D pm_25 (hd_Arrays_fill0_b65_5 c N v1 v3 s j) (QS Q2 (kfb_Arrays_fill0_b65_5 v1 v3 s)) := by
  obtain ⟨g2, gm⟩ := hs
  unfold kfb_Arrays_fill0_b65_5
  show PP (bb + 1) w D pm_25 (5, [(0, .ref 73), (1, .int (i32 v1)), (2, .int (i32 s.1)), (3, .int (i32 v3))], [], (khp (mO s.2 [] []) c, N), 0, 0) _
  refine P1_ld 6 (.int (i32 s.1)) rfl (fun _ => rfl) ?_
  refine P_ld 7 (.int (i32 v3)) rfl (fun _ => rfl) ?_
  refine P_icF 20 10 rfl rfl rfl g2 q3 rfl (fun h3 => ?_) (fun h3 => ?_)
  · skip
    refine P_some ?_
    exact H2 s.2 (jk [(1, v1), (2, s.1), (3, v3)]) gm
  · skip
    refine P_ld 11 (.ref 73) rfl (fun _ => rfl) ?_
    refine P_ld 12 (.int (i32 s.1)) rfl (fun _ => rfl) ?_
    refine P_ld 13 (.int (i32 v1)) rfl (fun _ => rfl) ?_
    refine PK_iast2 (a' := [(65, upI (s.2.2 65) s.1 v1)]) 14 65 (s.2.2 65) rfl rfl rfl g2 rfl rfl ?_
    refine P_inc 17 [(2, .int (i32 (cut (s.1 + 1)))), (0, .ref 73), (1, .int (i32 v1)), (3, .int (i32 v3))] rfl rfl (by decide) rfl rfl ?_
    refine P_goto 5 rfl (fun _ => rfl) ?_
    refine P_some ?_
    refine P_lv (b := [(0, .ref 73), (1, .int (i32 v1)), (2, .int (i32 (cut (s.1 + 1)))), (3, .int (i32 v3))]) rfl rfl ⟨rfl, rfl, rfl, rfl, trivial⟩ ?_
    exact H1 (cut (s.1 + 1), (mO s.2 [] [(65, upI (s.2.2 65) s.1 v1)])) (jk []) ⟨cut_r, (KCn_mO gm rfl rfl trivial ⟨(kE_ui (KCn_a gm 65) rfl q1), trivial⟩)⟩
def kf_Arrays_fill0_b65 (v1 : Int) (m : mR) : Option (Int × mR) :=
  bnd (whl (kfb_Arrays_fill0_b65_5 v1 12) (0, m)) (fun e4 : mR =>
    some (0, e4))
theorem D_Arrays_fill0_b65 (w : wX) (m : mR) (c : Nat → Option am_C) (N D : Nat) (hm : KCn m) (v1 : Int) (q1 : R32 v1) : PC w D 25 [.ref 73, .int (i32 v1)] (khp m c, N) (QS (FK0 c N) (kf_Arrays_fill0_b65 v1 m)) := by
  refine Pc_of (fun D bb => ?_) D
  unfold kf_Arrays_fill0_b65
  show PP bb w D pm_25 (0, [(0, .ref 73), (1, .int (i32 v1))], [], (khp (mO m [] []) c, N), 0, 0) _
  refine P_ld 1 (.int (i32 0)) rfl (fun _ => rfl) ?_
  refine P_sto 2 [(2, .int (i32 0)), (0, .ref 73), (1, .int (i32 v1))] rfl (fun _ => rfl) ?_
  refine P_ld 3 (.ref 73) rfl (fun _ => rfl) ?_
  refine P_ld1 4 (.int (i32 12)) rfl (fun _ => rfl) ?_
  refine P_sto 5 [(3, .int (i32 12)), (2, .int (i32 0)), (0, .ref 73), (1, .int (i32 v1))] rfl (fun _ => rfl) ?_
  refine P_lv (b := [(0, .ref 73), (1, .int (i32 v1)), (2, .int (i32 0)), (3, .int (i32 12))]) rfl rfl ⟨rfl, rfl, rfl, rfl, trivial⟩ ?_
  refine P_bnd ?_
  refine P_whl (fun bb Q2 H1 H2 s9 j9 hs9 => dh_Arrays_fill0_b65_5 w c N D v1 12 q1 (l32 12 rfl) bb Q2 H1 H2 s9 j9 hs9) bb (fun e4 j q5 => ?_) (0, m) (jk []) ⟨(l32 0 rfl), hm⟩
  have q6 := q5
  show PP bb w D pm_25 (20, [(0, .ref 73), (1, .int (i32 (j 1))), (2, .int (i32 (j 2))), (3, .int (i32 (j 3)))], [], (khp (mO e4 [] []) c, N), 0, 0) (QS _ (some (0, e4)))
  exact P_rk0 rfl rfl q6
def kf_sp_mark_b60 (v2 : Int) (v3 : Int) (m : mR) : Option (Int × mR) :=
  some (0, (mO m [] [(60, upI (m.2 60) (cut ((cut (v2 * 4)) + (v3.tdiv 64))) (or64 ((m.2 60) (cut ((cut (v2 * 4)) + (v3.tdiv 64)))) (shl64 1 (v3.tmod 64))))]))
theorem D_sp_mark_b60 (w : wX) (m : mR) (c : Nat → Option am_C) (N D : Nat) (hm : KCn m) (v2 : Int) (v3 : Int) (q2 : R32 v2) (q3 : R32 v3) : PC w D 153 [.ref 59, .ref 68, .int (i32 v2), .int (i32 v3)] (khp m c, N) (QS (FK0 c N) (kf_sp_mark_b60 v2 v3 m)) := by
  refine Pc_of (fun D bb => ?_) D
  unfold kf_sp_mark_b60
  show PP bb w D pm_153 (0, [(0, .ref 59), (1, .ref 68), (2, .int (i32 v2)), (3, .int (i32 v3))], [], (khp (mO m [] []) c, N), 0, 0) _
  refine P_ld 1 (.ref 68) rfl (fun _ => rfl) ?_
  refine P_ld 2 (.int (i32 v2)) rfl (fun _ => rfl) ?_
  refine P_ld 3 (.int (i32 4)) rfl (fun _ => rfl) ?_
  refine P_op 4 (cut (v2 * 4)) _ rfl (fun _ => rfl) o_mul ?_
  refine P_ld 5 (.int (i32 v3)) rfl (fun _ => rfl) ?_
  refine P_ld 7 (.int (i32 64)) rfl (fun _ => rfl) ?_
  refine P_div 8 rfl rfl q3 (by decide) (by decide) ?_
  refine P_op 9 (cut ((cut (v2 * 4)) + (v3.tdiv 64))) _ rfl (fun _ => rfl) o_add ?_
  refine P_dup2 10 rfl (fun _ => rfl) ?_
  refine PK_lald2 11 60 (m.2 60) rfl rfl rfl cut_r rfl ?_
  refine P_ld 12 (.long (i64 1)) rfl (fun _ => rfl) ?_
  refine P_ld 13 (.int (i32 v3)) rfl (fun _ => rfl) ?_
  refine P_ld 15 (.int (i32 64)) rfl (fun _ => rfl) ?_
  refine P_rem 16 rfl rfl q3 (by decide) (by decide) ?_
  refine P_opl 17 (shl64 1 (v3.tmod 64)) _ rfl (fun _ => rfl) (Int64.ofInt_toInt _).symm ?_
  refine P_opl 18 (or64 ((m.2 60) (cut ((cut (v2 * 4)) + (v3.tdiv 64)))) (shl64 1 (v3.tmod 64))) _ rfl (fun _ => rfl) (Int64.ofInt_toInt _).symm ?_
  refine PK_last2 (a' := [(60, upI (m.2 60) (cut ((cut (v2 * 4)) + (v3.tdiv 64))) (or64 ((m.2 60) (cut ((cut (v2 * 4)) + (v3.tdiv 64)))) (shl64 1 (v3.tmod 64))))]) 19 60 (m.2 60) rfl rfl rfl cut_r rfl rfl ?_
  exact P_rk0 rfl rfl (KCn_mO hm rfl rfl trivial ⟨(kE_ul (KCn_a hm 60) rfl t64_r), trivial⟩)
def cs_sp_gatherExpr_3 (s : Int × mR) : Prop := R32 s.1 ∧ KCn s.2
def cx_sp_gatherExpr_3 : (mR) → Prop := (fun (e : mR) => KCn e)
def hd_sp_gatherExpr_3 (c : Nat → Option am_C) (N : Nat) (v2 : Int) (v4 : Int) (s : Int × mR) (j : Nat → Int) : ag_St af_T := (3, [(0, .ref 59), (1, .ref 22), (2, .int (i32 v2)), (3, .int (i32 (j 3))), (4, .int (i32 v4)), (5, .int (i32 s.1)), (6, .int (i32 (j 6)))], [], (khp s.2 c, N), 0, 0)
def ex_sp_gatherExpr_3 (c : Nat → Option am_C) (N : Nat) (v2 : Int) (v4 : Int) : (mR) → (Nat → Int) → ag_St af_T := (fun (e : mR) (j : Nat → Int) => ((85, [(0, .ref 59), (1, .ref 22), (2, .int (i32 (j 2))), (3, .int (i32 (j 3))), (4, .int (i32 (j 4))), (5, .int (i32 (j 5))), (6, .int (i32 (j 6)))], [], (khp e c, N), 0, 0) : ag_St af_T))
def kfl_sp_gatherExpr_79 (v2 : Int) (v4 : Int) (v5 : Int) (m : mR) : Option (Sum (Int × mR) (mR)) :=
  some (.inl (cut (v5 + 1), m))
theorem dg_sp_gatherExpr_79 (w : wX) (c : Nat → Option am_C) (N D : Nat) (bb : Nat) (v2 : Int) (v4 : Int) (v5 : Int) (q2 : R32 v2) (q4 : R32 v4) (q5 : R32 v5) (m : mR) (hm : KCn m) (j : Nat → Int) (Q2 : Sum (Int × mR) (mR) → ag_Re af_T → Prop) (H1 : ∀ s j, cs_sp_gatherExpr_3 s → PP bb w D pm_152 (hd_sp_gatherExpr_3 c N v2 v4 s j) (Q2 (.inl s))) (H2 : ∀ x j, cx_sp_gatherExpr_3 x → PP bb w D pm_152 (ex_sp_gatherExpr_3 c N v2 v4 x j) (Q2 (.inr x))) : PP bb w D pm_152 (79, [(0, .ref 59), (1, .ref 22), (2, .int (i32 v2)), (3, .int (i32 (j 3))), (4, .int (i32 v4)), (5, .int (i32 v5)), (6, .int (i32 (j 6)))], [], (khp m c, N), 0, 0) (QS Q2 (kfl_sp_gatherExpr_79 v2 v4 v5 m)) := by
  unfold kfl_sp_gatherExpr_79
  show PP bb w D pm_152 (79, [(0, .ref 59), (1, .ref 22), (2, .int (i32 v2)), (3, .int (i32 (j 3))), (4, .int (i32 v4)), (5, .int (i32 v5)), (6, .int (i32 (j 6)))], [], (khp (mO m [] []) c, N), 0, 0) _
  refine P_inc 82 [(5, .int (i32 (cut (v5 + 1)))), (0, .ref 59), (1, .ref 22), (2, .int (i32 v2)), (3, .int (i32 (j 3))), (4, .int (i32 v4)), (6, .int (i32 (j 6)))] rfl rfl (by decide) rfl rfl ?_
  refine P_goto 3 rfl (fun _ => rfl) ?_
  refine P_some ?_
  refine P_lv (b := [(0, .ref 59), (1, .ref 22), (2, .int (i32 v2)), (3, .int (i32 (j 3))), (4, .int (i32 v4)), (5, .int (i32 (cut (v5 + 1)))), (6, .int (i32 (j 6)))]) rfl rfl ⟨rfl, rfl, rfl, rfl, rfl, rfl, rfl, trivial⟩ ?_
  exact H1 (cut (v5 + 1), m) (jk [(3, j 3), (6, j 6)]) ⟨cut_r, hm⟩
def kfl_sp_gatherExpr_76 (v2 : Int) (v4 : Int) (v5 : Int) (u2 : Int) (u3 : Int) (m : mR) : Option (Sum (Int × mR) (mR)) :=
  bnd (kf_sp_mark_b60 u2 u3 m) fun y2 =>
  kfl_sp_gatherExpr_79 v2 v4 v5 y2.2
theorem dg_sp_gatherExpr_76 (w : wX) (c : Nat → Option am_C) (N D : Nat) (bb : Nat) (v2 : Int) (v4 : Int) (v5 : Int) (u2 : Int) (u3 : Int) (q2 : R32 v2) (q4 : R32 v4) (q5 : R32 v5) (r2 : R32 u2) (r3 : R32 u3) (m : mR) (hm : KCn m) (j : Nat → Int) (Q2 : Sum (Int × mR) (mR) → ag_Re af_T → Prop) (H1 : ∀ s j, cs_sp_gatherExpr_3 s → PP bb w D pm_152 (hd_sp_gatherExpr_3 c N v2 v4 s j) (Q2 (.inl s))) (H2 : ∀ x j, cx_sp_gatherExpr_3 x → PP bb w D pm_152 (ex_sp_gatherExpr_3 c N v2 v4 x j) (Q2 (.inr x))) : PP bb w D pm_152 (76, [(0, .ref 59), (1, .ref 22), (2, .int (i32 v2)), (3, .int (i32 (j 3))), (4, .int (i32 v4)), (5, .int (i32 v5)), (6, .int (i32 (j 6)))], [.int (i32 u3), .int (i32 u2), .ref 68, .ref 59], (khp m c, N), 0, 0) (QS Q2 (kfl_sp_gatherExpr_76 v2 v4 v5 u2 u3 m)) := by
  unfold kfl_sp_gatherExpr_76
  show PP bb w D pm_152 (76, [(0, .ref 59), (1, .ref 22), (2, .int (i32 v2)), (3, .int (i32 (j 3))), (4, .int (i32 v4)), (5, .int (i32 v5)), (6, .int (i32 (j 6)))], [.int (i32 u3), .int (i32 u2), .ref 68, .ref 59], (khp (mO m [] []) c, N), 0, 0) _
  refine P_ck0 79 153 [.ref 59, .ref 68, .int (i32 u2), .int (i32 u3)] [] rfl (fun _ => rfl) rfl (D_sp_mark_b60 w m c N D hm u2 u3 r2 r3) (fun y2 n4 => ?_)
  exact dg_sp_gatherExpr_79 w c N D bb v2 v4 v5 q2 q4 q5 y2.2 n4 (jk [(3, j 3), (6, j 6)]) Q2 H1 H2
def kfb_sp_gatherExpr_3 (v2 : Int) (v4 : Int) (s : Int × mR) : Option (Sum (Int × mR) (mR)) :=
  if v4 = (-1) then
    some (.inr s.2)
  else
    if v4 < s.1 then
      some (.inr s.2)
    else
      if (s.2.2 18) s.1 = 400 then
        bnd (kf_sp_mark_b60 v2 ((s.2.2 19) s.1) s.2) fun y9 =>
        if (204 : Int) ≤ (s.2.2 19) s.1 then
          kfl_sp_gatherExpr_76 v2 v4 s.1 v2 ((s.2.2 19) s.1) y9.2
        else
          kfl_sp_gatherExpr_76 v2 v4 s.1 v2 (cut (((s.2.2 19) s.1) - (((s.2.2 19) s.1).tmod 17))) y9.2
      else
        kfl_sp_gatherExpr_79 v2 v4 s.1 s.2
theorem dh_sp_gatherExpr_3 (w : wX) (c : Nat → Option am_C) (N D : Nat) (v2 : Int) (v4 : Int) (q2 : R32 v2) (q4 : R32 v4) (bb : Nat) (Q2 : Sum (Int × mR) (mR) → ag_Re af_T → Prop) (H1 : ∀ s j, cs_sp_gatherExpr_3 s → PP bb w D pm_152 (hd_sp_gatherExpr_3 c N v2 v4 s j) (Q2 (.inl s))) (H2 : ∀ x j, cx_sp_gatherExpr_3 x → PP bb w D pm_152 (ex_sp_gatherExpr_3 c N v2 v4 x j) (Q2 (.inr x))) (s : Int × mR) (j : Nat → Int) (hs : cs_sp_gatherExpr_3 s) : PP (bb + 1) w D pm_152 (hd_sp_gatherExpr_3 c N v2 v4 s j) (QS Q2 (kfb_sp_gatherExpr_3 v2 v4 s)) := by
  obtain ⟨g5, gm⟩ := hs
  unfold kfb_sp_gatherExpr_3
  show PP (bb + 1) w D pm_152 (3, [(0, .ref 59), (1, .ref 22), (2, .int (i32 v2)), (3, .int (i32 (j 3))), (4, .int (i32 v4)), (5, .int (i32 s.1)), (6, .int (i32 (j 6)))], [], (khp (mO s.2 [] []) c, N), 0, 0) _
  refine P1_ld 5 (.int (i32 v4)) rfl (fun _ => rfl) ?_
  refine P_ld 6 (.int (i32 (-1))) rfl (fun _ => rfl) ?_
  refine P_icF 85 9 rfl rfl rfl q4 (l32 (-1) rfl) rfl (fun h6 => ?_) (fun h6 => ?_)
  · skip
    refine P_some ?_
    exact H2 s.2 (jk [(2, v2), (3, j 3), (4, v4), (5, s.1), (6, j 6)]) gm
  · skip
    refine P_ld 11 (.int (i32 s.1)) rfl (fun _ => rfl) ?_
    refine P_ld 13 (.int (i32 v4)) rfl (fun _ => rfl) ?_
    refine P_icF 85 16 rfl rfl rfl g5 q4 rfl (fun h7 => ?_) (fun h7 => ?_)
    · skip
      refine P_some ?_
      exact H2 s.2 (jk [(2, v2), (3, j 3), (4, v4), (5, s.1), (6, j 6)]) gm
    · skip
      refine P_ld 17 (.ref 22) rfl (fun _ => rfl) ?_
      refine PK_gf 20 (.ref 23) rfl rfl kd_22 rfl rfl rfl ?_
      refine P_ld 22 (.int (i32 s.1)) rfl (fun _ => rfl) ?_
      refine PK_iald2 23 18 (s.2.2 18) rfl rfl rfl g5 rfl ?_
      refine P_ld 26 (.int (i32 400)) rfl (fun _ => rfl) ?_
      refine P_icE 79 29 rfl rfl rfl (kE_i (KCn_a gm 18) rfl _) (l32 400 rfl) rfl (fun h8 => ?_) (fun h8 => ?_)
      · skip
        refine P_ld 30 (.ref 22) rfl (fun _ => rfl) ?_
        refine PK_gf 33 (.ref 24) rfl rfl kd_22 rfl rfl rfl ?_
        refine P_ld 35 (.int (i32 s.1)) rfl (fun _ => rfl) ?_
        refine PK_iald2 36 19 (s.2.2 19) rfl rfl rfl g5 rfl ?_
        refine P_sto 38 [(6, .int (i32 ((s.2.2 19) s.1))), (0, .ref 59), (1, .ref 22), (2, .int (i32 v2)), (3, .int (i32 (j 3))), (4, .int (i32 v4)), (5, .int (i32 s.1))] rfl (fun _ => rfl) ?_
        refine P_ld 39 (.ref 59) rfl (fun _ => rfl) ?_
        refine P_ld 40 (.ref 59) rfl (fun _ => rfl) ?_
        refine PK_gf 43 (.ref 68) rfl rfl kd_59 rfl rfl rfl ?_
        refine P_ld 44 (.int (i32 v2)) rfl (fun _ => rfl) ?_
        refine P_ld 46 (.int (i32 ((s.2.2 19) s.1))) rfl (fun _ => rfl) ?_
        refine P_ck0 49 153 [.ref 59, .ref 68, .int (i32 v2), .int (i32 ((s.2.2 19) s.1))] [] rfl (fun _ => rfl) rfl (D_sp_mark_b60 w s.2 c N D gm v2 ((s.2.2 19) s.1) q2 (kE_i (KCn_a gm 19) rfl _)) (fun y9 n11 => ?_)
        refine P_ld 50 (.ref 59) rfl (fun _ => rfl) ?_
        refine P_ld 51 (.ref 59) rfl (fun _ => rfl) ?_
        refine PK_gf 54 (.ref 68) rfl rfl kd_59 rfl rfl rfl ?_
        refine P_ld 55 (.int (i32 v2)) rfl (fun _ => rfl) ?_
        refine P_ld 57 (.int (i32 ((s.2.2 19) s.1))) rfl (fun _ => rfl) ?_
        refine P_ld 60 (.int (i32 204)) rfl (fun _ => rfl) ?_
        refine P_icF 74 63 rfl rfl rfl (kE_i (KCn_a gm 19) rfl _) (l32 204 rfl) rfl (fun h12 => ?_) (fun h12 => ?_)
        · skip
          refine P_ld 76 (.int (i32 ((s.2.2 19) s.1))) rfl (fun _ => rfl) ?_
          refine P_lv (b := [(0, .ref 59), (1, .ref 22), (2, .int (i32 v2)), (3, .int (i32 (j 3))), (4, .int (i32 v4)), (5, .int (i32 s.1)), (6, .int (i32 ((s.2.2 19) s.1)))]) rfl rfl ⟨rfl, rfl, rfl, rfl, rfl, rfl, rfl, trivial⟩ ?_
          exact dg_sp_gatherExpr_76 w c N D bb v2 v4 s.1 v2 ((s.2.2 19) s.1) q2 q4 g5 q2 (kE_i (KCn_a gm 19) rfl _) y9.2 n11 (jk [(3, j 3), (6, (s.2.2 19) s.1)]) Q2 H1 H2
        · skip
          refine P_ld 65 (.int (i32 ((s.2.2 19) s.1))) rfl (fun _ => rfl) ?_
          refine P_ld 67 (.int (i32 ((s.2.2 19) s.1))) rfl (fun _ => rfl) ?_
          refine P_ld 69 (.int (i32 17)) rfl (fun _ => rfl) ?_
          refine P_rem 70 rfl rfl (kE_i (KCn_a gm 19) rfl _) (by decide) (by decide) ?_
          refine P_op 71 (cut (((s.2.2 19) s.1) - (((s.2.2 19) s.1).tmod 17))) _ rfl (fun _ => rfl) o_sub ?_
          refine P_goto 76 rfl (fun _ => rfl) ?_
          refine P_lv (b := [(0, .ref 59), (1, .ref 22), (2, .int (i32 v2)), (3, .int (i32 (j 3))), (4, .int (i32 v4)), (5, .int (i32 s.1)), (6, .int (i32 ((s.2.2 19) s.1)))]) rfl rfl ⟨rfl, rfl, rfl, rfl, rfl, rfl, rfl, trivial⟩ ?_
          exact dg_sp_gatherExpr_76 w c N D bb v2 v4 s.1 v2 (cut (((s.2.2 19) s.1) - (((s.2.2 19) s.1).tmod 17))) q2 q4 g5 q2 cut_r y9.2 n11 (jk [(3, j 3), (6, (s.2.2 19) s.1)]) Q2 H1 H2
      · skip
        exact dg_sp_gatherExpr_79 w c N D bb v2 v4 s.1 q2 q4 g5 s.2 gm (jk [(3, j 3), (6, j 6)]) Q2 H1 H2
def kf_sp_gatherExpr (v2 : Int) (v3 : Int) (v4 : Int) (m : mR) : Option (Int × mR) :=
  bnd (whl (kfb_sp_gatherExpr_3 v2 v4) (v3, m)) (fun e13 : mR =>
    some (0, e13))
theorem D_sp_gatherExpr (w : wX) (m : mR) (c : Nat → Option am_C) (N D : Nat) (hm : KCn m) (v2 : Int) (v3 : Int) (v4 : Int) (q2 : R32 v2) (q3 : R32 v3) (q4 : R32 v4) : PC w D 152 [.ref 59, .ref 22, .int (i32 v2), .int (i32 v3), .int (i32 v4)] (khp m c, N) (QS (FK0 c N) (kf_sp_gatherExpr v2 v3 v4 m)) := by
  refine Pc_of (fun D bb => ?_) D
  unfold kf_sp_gatherExpr
  show PP bb w D pm_152 (0, [(0, .ref 59), (1, .ref 22), (2, .int (i32 v2)), (3, .int (i32 v3)), (4, .int (i32 v4))], [], (khp (mO m [] []) c, N), 0, 0) _
  refine P_ld 1 (.int (i32 v3)) rfl (fun _ => rfl) ?_
  refine P_sto 3 [(5, .int (i32 v3)), (0, .ref 59), (1, .ref 22), (2, .int (i32 v2)), (3, .int (i32 v3)), (4, .int (i32 v4))] rfl (fun _ => rfl) ?_
  refine P_lv (b := [(0, .ref 59), (1, .ref 22), (2, .int (i32 v2)), (3, .int (i32 v3)), (4, .int (i32 v4)), (5, .int (i32 v3)), (6, .int (i32 0))]) rfl rfl ⟨rfl, rfl, rfl, rfl, rfl, rfl, trivial⟩ ?_
  refine P_bnd ?_
  refine P_whl (fun bb Q2 H1 H2 s9 j9 hs9 => dh_sp_gatherExpr_3 w c N D v2 v4 q2 q4 bb Q2 H1 H2 s9 j9 hs9) bb (fun e13 j q14 => ?_) (v3, m) (jk [(3, v3)]) ⟨q3, hm⟩
  have q15 := q14
  show PP bb w D pm_152 (85, [(0, .ref 59), (1, .ref 22), (2, .int (i32 (j 2))), (3, .int (i32 (j 3))), (4, .int (i32 (j 4))), (5, .int (i32 (j 5))), (6, .int (i32 (j 6)))], [], (khp (mO e13 [] []) c, N), 0, 0) (QS _ (some (0, e13)))
  exact P_rk0 rfl rfl q15
def kf_sp_mark_b61 (v2 : Int) (v3 : Int) (m : mR) : Option (Int × mR) :=
  some (0, (mO m [] [(61, upI (m.2 61) (cut ((cut (v2 * 4)) + (v3.tdiv 64))) (or64 ((m.2 61) (cut ((cut (v2 * 4)) + (v3.tdiv 64)))) (shl64 1 (v3.tmod 64))))]))
theorem D_sp_mark_b61 (w : wX) (m : mR) (c : Nat → Option am_C) (N D : Nat) (hm : KCn m) (v2 : Int) (v3 : Int) (q2 : R32 v2) (q3 : R32 v3) : PC w D 153 [.ref 59, .ref 69, .int (i32 v2), .int (i32 v3)] (khp m c, N) (QS (FK0 c N) (kf_sp_mark_b61 v2 v3 m)) := by
  refine Pc_of (fun D bb => ?_) D
  unfold kf_sp_mark_b61
  show PP bb w D pm_153 (0, [(0, .ref 59), (1, .ref 69), (2, .int (i32 v2)), (3, .int (i32 v3))], [], (khp (mO m [] []) c, N), 0, 0) _
  refine P_ld 1 (.ref 69) rfl (fun _ => rfl) ?_
  refine P_ld 2 (.int (i32 v2)) rfl (fun _ => rfl) ?_
  refine P_ld 3 (.int (i32 4)) rfl (fun _ => rfl) ?_
  refine P_op 4 (cut (v2 * 4)) _ rfl (fun _ => rfl) o_mul ?_
  refine P_ld 5 (.int (i32 v3)) rfl (fun _ => rfl) ?_
  refine P_ld 7 (.int (i32 64)) rfl (fun _ => rfl) ?_
  refine P_div 8 rfl rfl q3 (by decide) (by decide) ?_
  refine P_op 9 (cut ((cut (v2 * 4)) + (v3.tdiv 64))) _ rfl (fun _ => rfl) o_add ?_
  refine P_dup2 10 rfl (fun _ => rfl) ?_
  refine PK_lald2 11 61 (m.2 61) rfl rfl rfl cut_r rfl ?_
  refine P_ld 12 (.long (i64 1)) rfl (fun _ => rfl) ?_
  refine P_ld 13 (.int (i32 v3)) rfl (fun _ => rfl) ?_
  refine P_ld 15 (.int (i32 64)) rfl (fun _ => rfl) ?_
  refine P_rem 16 rfl rfl q3 (by decide) (by decide) ?_
  refine P_opl 17 (shl64 1 (v3.tmod 64)) _ rfl (fun _ => rfl) (Int64.ofInt_toInt _).symm ?_
  refine P_opl 18 (or64 ((m.2 61) (cut ((cut (v2 * 4)) + (v3.tdiv 64)))) (shl64 1 (v3.tmod 64))) _ rfl (fun _ => rfl) (Int64.ofInt_toInt _).symm ?_
  refine PK_last2 (a' := [(61, upI (m.2 61) (cut ((cut (v2 * 4)) + (v3.tdiv 64))) (or64 ((m.2 61) (cut ((cut (v2 * 4)) + (v3.tdiv 64)))) (shl64 1 (v3.tmod 64))))]) 19 61 (m.2 61) rfl rfl rfl cut_r rfl rfl ?_
  exact P_rk0 rfl rfl (KCn_mO hm rfl rfl trivial ⟨(kE_ul (KCn_a hm 61) rfl t64_r), trivial⟩)
def cs_sp_gatherDeed_145 (s : Int × mR) : Prop := R32 s.1 ∧ KCn s.2
def cx_sp_gatherDeed_145 : (mR) → Prop := (fun (e : mR) => KCn e)
def hd_sp_gatherDeed_145 (c : Nat → Option am_C) (N : Nat) (v2 : Int) (v5 : Int) (v6 : Int) (s : Int × mR) (j : Nat → Int) : ag_St af_T := (145, [(0, .ref 59), (1, .ref 12), (2, .int (i32 v2)), (3, .int (i32 (j 3))), (4, .ref 45), (5, .int (i32 v5)), (6, .int (i32 v6)), (7, .int (i32 s.1))], [], (khp s.2 c, N), 0, 0)
def ex_sp_gatherDeed_145 (c : Nat → Option am_C) (N : Nat) (v2 : Int) (v5 : Int) (v6 : Int) : (mR) → (Nat → Int) → ag_St af_T := (fun (e : mR) (j : Nat → Int) => ((172, [(0, .ref 59), (1, .ref 12), (2, .int (i32 v2)), (3, .int (i32 (j 3))), (4, .ref 45), (5, .int (i32 v5)), (6, .int (i32 v6)), (7, .int (i32 (j 7)))], [], (khp e c, N), 0, 0) : ag_St af_T))
def kfl_sp_gatherDeed_172 (v2 : Int) (v5 : Int) (v6 : Int) (m : mR) : Option (Int × mR) :=
  if v6 = 0 then
    if (204 : Int) ≤ v5 then
      some (0, m)
    else
      bnd (kf_sp_mark_b60 v2 (cut (v5 - (v5.tmod 17))) m) fun y4 =>
      some (0, y4.2)
  else
    some (0, m)
theorem dg_sp_gatherDeed_172 (w : wX) (c : Nat → Option am_C) (N D : Nat) (bb : Nat) (v2 : Int) (v5 : Int) (v6 : Int) (q2 : R32 v2) (q5 : R32 v5) (q6 : R32 v6) (m : mR) (hm : KCn m) (j : Nat → Int) : PP bb w D pm_154 (172, [(0, .ref 59), (1, .ref 12), (2, .int (i32 v2)), (3, .int (i32 (j 3))), (4, .ref 45), (5, .int (i32 v5)), (6, .int (i32 v6)), (7, .int (i32 (j 7)))], [], (khp m c, N), 0, 0) (QS (FK0 c N) (kfl_sp_gatherDeed_172 v2 v5 v6 m)) := by
  unfold kfl_sp_gatherDeed_172
  show PP bb w D pm_154 (172, [(0, .ref 59), (1, .ref 12), (2, .int (i32 v2)), (3, .int (i32 (j 3))), (4, .ref 45), (5, .int (i32 v5)), (6, .int (i32 v6)), (7, .int (i32 (j 7)))], [], (khp (mO m [] []) c, N), 0, 0) _
  refine P_ld 174 (.int (i32 v6)) rfl (fun _ => rfl) ?_
  refine P_ifE 202 177 rfl rfl rfl q6 rfl (fun h2 => ?_) (fun h2 => ?_)
  · skip
    refine P_ld 179 (.int (i32 v5)) rfl (fun _ => rfl) ?_
    refine P_ld 182 (.int (i32 204)) rfl (fun _ => rfl) ?_
    refine P_icF 202 185 rfl rfl rfl q5 (l32 204 rfl) rfl (fun h3 => ?_) (fun h3 => ?_)
    · skip
      exact P_rk0 rfl rfl hm
    · skip
      refine P_ld 186 (.ref 59) rfl (fun _ => rfl) ?_
      refine P_ld 187 (.ref 59) rfl (fun _ => rfl) ?_
      refine PK_gf 190 (.ref 68) rfl rfl kd_59 rfl rfl rfl ?_
      refine P_ld 191 (.int (i32 v2)) rfl (fun _ => rfl) ?_
      refine P_ld 193 (.int (i32 v5)) rfl (fun _ => rfl) ?_
      refine P_ld 195 (.int (i32 v5)) rfl (fun _ => rfl) ?_
      refine P_ld 197 (.int (i32 17)) rfl (fun _ => rfl) ?_
      refine P_rem 198 rfl rfl q5 (by decide) (by decide) ?_
      refine P_op 199 (cut (v5 - (v5.tmod 17))) _ rfl (fun _ => rfl) o_sub ?_
      refine P_ck0 202 153 [.ref 59, .ref 68, .int (i32 v2), .int (i32 (cut (v5 - (v5.tmod 17))))] [] rfl (fun _ => rfl) rfl (D_sp_mark_b60 w m c N D hm v2 (cut (v5 - (v5.tmod 17))) q2 cut_r) (fun y4 n6 => ?_)
      exact P_rk0 rfl rfl n6
  · skip
    exact P_rk0 rfl rfl hm
def kfb_sp_gatherDeed_145 (v2 : Int) (v5 : Int) (v6 : Int) (s : Int × mR) : Option (Sum (Int × mR) (mR)) :=
  if v6 < s.1 then
    some (.inr s.2)
  else
    bnd (kf_sp_mark_b61 v2 (cut (v5 + s.1)) s.2) fun y9 =>
    some (.inl (cut (s.1 + 1), y9.2))
theorem dh_sp_gatherDeed_145 (w : wX) (c : Nat → Option am_C) (N D : Nat) (v2 : Int) (v5 : Int) (v6 : Int) (q2 : R32 v2) (q5 : R32 v5) (q6 : R32 v6) (bb : Nat) (Q2 : Sum (Int × mR) (mR) → ag_Re af_T → Prop) (H1 : ∀ s j, cs_sp_gatherDeed_145 s → PP bb w D pm_154 (hd_sp_gatherDeed_145 c N v2 v5 v6 s j) (Q2 (.inl s))) (H2 : ∀ x j, cx_sp_gatherDeed_145 x → PP bb w D pm_154 (ex_sp_gatherDeed_145 c N v2 v5 v6 x j) (Q2 (.inr x))) (s : Int × mR) (j : Nat → Int) (hs : cs_sp_gatherDeed_145 s) : PP (bb + 1) w D pm_154 (hd_sp_gatherDeed_145 c N v2 v5 v6 s j) (QS Q2 (kfb_sp_gatherDeed_145 v2 v5 v6 s)) := by
  obtain ⟨g7, gm⟩ := hs
  unfold kfb_sp_gatherDeed_145
  show PP (bb + 1) w D pm_154 (145, [(0, .ref 59), (1, .ref 12), (2, .int (i32 v2)), (3, .int (i32 (j 3))), (4, .ref 45), (5, .int (i32 v5)), (6, .int (i32 v6)), (7, .int (i32 s.1))], [], (khp (mO s.2 [] []) c, N), 0, 0) _
  refine P1_ld 147 (.int (i32 s.1)) rfl (fun _ => rfl) ?_
  refine P_ld 149 (.int (i32 v6)) rfl (fun _ => rfl) ?_
  refine P_icF 172 152 rfl rfl rfl g7 q6 rfl (fun h8 => ?_) (fun h8 => ?_)
  · skip
    refine P_some ?_
    exact H2 s.2 (jk [(3, j 3), (7, s.1)]) gm
  · skip
    refine P_ld 153 (.ref 59) rfl (fun _ => rfl) ?_
    refine P_ld 154 (.ref 59) rfl (fun _ => rfl) ?_
    refine PK_gf 157 (.ref 69) rfl rfl kd_59 rfl rfl rfl ?_
    refine P_ld 158 (.int (i32 v2)) rfl (fun _ => rfl) ?_
    refine P_ld 160 (.int (i32 v5)) rfl (fun _ => rfl) ?_
    refine P_ld 162 (.int (i32 s.1)) rfl (fun _ => rfl) ?_
    refine P_op 163 (cut (v5 + s.1)) _ rfl (fun _ => rfl) o_add ?_
    refine P_ck0 166 153 [.ref 59, .ref 69, .int (i32 v2), .int (i32 (cut (v5 + s.1)))] [] rfl (fun _ => rfl) rfl (D_sp_mark_b61 w s.2 c N D gm v2 (cut (v5 + s.1)) q2 cut_r) (fun y9 n11 => ?_)
    refine P_inc 169 [(7, .int (i32 (cut (s.1 + 1)))), (0, .ref 59), (1, .ref 12), (2, .int (i32 v2)), (3, .int (i32 (j 3))), (4, .ref 45), (5, .int (i32 v5)), (6, .int (i32 v6))] rfl rfl (by decide) rfl rfl ?_
    refine P_goto 145 rfl (fun _ => rfl) ?_
    refine P_some ?_
    refine P_lv (b := [(0, .ref 59), (1, .ref 12), (2, .int (i32 v2)), (3, .int (i32 (j 3))), (4, .ref 45), (5, .int (i32 v5)), (6, .int (i32 v6)), (7, .int (i32 (cut (s.1 + 1))))]) rfl rfl ⟨rfl, rfl, rfl, rfl, rfl, rfl, rfl, rfl, trivial⟩ ?_
    exact H1 (cut (s.1 + 1), y9.2) (jk [(3, j 3)]) ⟨cut_r, n11⟩
def kfl_sp_gatherDeed_140 (v2 : Int) (v5 : Int) (u0 : Int) (m : mR) : Option (Int × mR) :=
  bnd (whl (kfb_sp_gatherDeed_145 v2 v5 u0) (1, m)) (fun e12 : mR =>
    kfl_sp_gatherDeed_172 v2 v5 u0 e12)
theorem dg_sp_gatherDeed_140 (w : wX) (c : Nat → Option am_C) (N D : Nat) (bb : Nat) (v2 : Int) (v5 : Int) (u0 : Int) (q2 : R32 v2) (q5 : R32 v5) (r0 : R32 u0) (m : mR) (hm : KCn m) (j : Nat → Int) : PP bb w D pm_154 (140, [(0, .ref 59), (1, .ref 12), (2, .int (i32 v2)), (3, .int (i32 (j 3))), (4, .ref 45), (5, .int (i32 v5))], [.int (i32 u0)], (khp m c, N), 0, 0) (QS (FK0 c N) (kfl_sp_gatherDeed_140 v2 v5 u0 m)) := by
  unfold kfl_sp_gatherDeed_140
  show PP bb w D pm_154 (140, [(0, .ref 59), (1, .ref 12), (2, .int (i32 v2)), (3, .int (i32 (j 3))), (4, .ref 45), (5, .int (i32 v5))], [.int (i32 u0)], (khp (mO m [] []) c, N), 0, 0) _
  refine P_sto 142 [(6, .int (i32 u0)), (0, .ref 59), (1, .ref 12), (2, .int (i32 v2)), (3, .int (i32 (j 3))), (4, .ref 45), (5, .int (i32 v5))] rfl (fun _ => rfl) ?_
  refine P_ld 143 (.int (i32 1)) rfl (fun _ => rfl) ?_
  refine P_sto 145 [(7, .int (i32 1)), (6, .int (i32 u0)), (0, .ref 59), (1, .ref 12), (2, .int (i32 v2)), (3, .int (i32 (j 3))), (4, .ref 45), (5, .int (i32 v5))] rfl (fun _ => rfl) ?_
  refine P_lv (b := [(0, .ref 59), (1, .ref 12), (2, .int (i32 v2)), (3, .int (i32 (j 3))), (4, .ref 45), (5, .int (i32 v5)), (6, .int (i32 u0)), (7, .int (i32 1))]) rfl rfl ⟨rfl, rfl, rfl, rfl, rfl, rfl, rfl, rfl, trivial⟩ ?_
  refine P_bnd ?_
  refine P_whl (fun bb Q2 H1 H2 s9 j9 hs9 => dh_sp_gatherDeed_145 w c N D v2 v5 u0 q2 q5 r0 bb Q2 H1 H2 s9 j9 hs9) bb (fun e12 j q13 => ?_) (1, m) (jk [(3, j 3)]) ⟨(l32 1 rfl), hm⟩
  have q14 := q13
  show PP bb w D pm_154 (172, [(0, .ref 59), (1, .ref 12), (2, .int (i32 v2)), (3, .int (i32 (j 3))), (4, .ref 45), (5, .int (i32 v5)), (6, .int (i32 u0)), (7, .int (i32 (j 7)))], [], (khp (mO e12 [] []) c, N), 0, 0) (QS _ (kfl_sp_gatherDeed_172 v2 v5 u0 e12))
  exact dg_sp_gatherDeed_172 w c N D bb v2 v5 u0 q2 q5 r0 e12 q14 (jk [(3, j 3), (7, j 7)])
def kfl_sp_gatherDeed_134 (v2 : Int) (v5 : Int) (m : mR) : Option (Int × mR) :=
  kfl_sp_gatherDeed_140 v2 v5 16 m
theorem dg_sp_gatherDeed_134 (w : wX) (c : Nat → Option am_C) (N D : Nat) (bb : Nat) (v2 : Int) (v5 : Int) (q2 : R32 v2) (q5 : R32 v5) (m : mR) (hm : KCn m) (j : Nat → Int) : PP bb w D pm_154 (134, [(0, .ref 59), (1, .ref 12), (2, .int (i32 v2)), (3, .int (i32 (j 3))), (4, .ref 45), (5, .int (i32 v5))], [], (khp m c, N), 0, 0) (QS (FK0 c N) (kfl_sp_gatherDeed_134 v2 v5 m)) := by
  unfold kfl_sp_gatherDeed_134
  show PP bb w D pm_154 (134, [(0, .ref 59), (1, .ref 12), (2, .int (i32 v2)), (3, .int (i32 (j 3))), (4, .ref 45), (5, .int (i32 v5))], [], (khp (mO m [] []) c, N), 0, 0) _
  refine P_ld 136 (.int (i32 16)) rfl (fun _ => rfl) ?_
  refine P_goto 140 rfl (fun _ => rfl) ?_
  exact dg_sp_gatherDeed_140 w c N D bb v2 v5 16 q2 q5 (l32 16 rfl) m hm (jk [(3, j 3)])
def kfl_sp_gatherDeed_81 (v2 : Int) (v3 : Int) (m : mR) : Option (Int × mR) :=
  if (m.2 46) v3 = (-1) then
    some (0, m)
  else
    bnd (kf_sp_mark_b61 v2 ((m.2 46) v3) m) fun y16 =>
    if (y16.2.2 45) v3 = 324 then
      kfl_sp_gatherDeed_134 v2 ((m.2 46) v3) y16.2
    else
      if (y16.2.2 45) v3 = 325 then
        kfl_sp_gatherDeed_134 v2 ((m.2 46) v3) y16.2
      else
        kfl_sp_gatherDeed_140 v2 ((m.2 46) v3) 0 y16.2
theorem dg_sp_gatherDeed_81 (w : wX) (c : Nat → Option am_C) (N D : Nat) (bb : Nat) (v2 : Int) (v3 : Int) (q2 : R32 v2) (q3 : R32 v3) (m : mR) (hm : KCn m) (j : Nat → Int) : PP bb w D pm_154 (81, [(0, .ref 59), (1, .ref 12), (2, .int (i32 v2)), (3, .int (i32 v3)), (4, .ref 45)], [], (khp m c, N), 0, 0) (QS (FK0 c N) (kfl_sp_gatherDeed_81 v2 v3 m)) := by
  unfold kfl_sp_gatherDeed_81
  show PP bb w D pm_154 (81, [(0, .ref 59), (1, .ref 12), (2, .int (i32 v2)), (3, .int (i32 v3)), (4, .ref 45)], [], (khp (mO m [] []) c, N), 0, 0) _
  refine P_ld 83 (.ref 45) rfl (fun _ => rfl) ?_
  refine PK_gf 86 (.ref 53) rfl rfl kd_45 rfl rfl rfl ?_
  refine P_ld 87 (.int (i32 v3)) rfl (fun _ => rfl) ?_
  refine PK_iald2 88 46 (m.2 46) rfl rfl rfl q3 rfl ?_
  refine P_sto 90 [(5, .int (i32 ((m.2 46) v3))), (0, .ref 59), (1, .ref 12), (2, .int (i32 v2)), (3, .int (i32 v3)), (4, .ref 45)] rfl (fun _ => rfl) ?_
  refine P_ld 92 (.int (i32 ((m.2 46) v3))) rfl (fun _ => rfl) ?_
  refine P_ld 93 (.int (i32 (-1))) rfl (fun _ => rfl) ?_
  refine P_icE 97 96 rfl rfl rfl (kE_i (KCn_a hm 46) rfl _) (l32 (-1) rfl) rfl (fun h15 => ?_) (fun h15 => ?_)
  · skip
    exact P_rk0 rfl rfl hm
  · skip
    refine P_ld 98 (.ref 59) rfl (fun _ => rfl) ?_
    refine P_ld 99 (.ref 59) rfl (fun _ => rfl) ?_
    refine PK_gf 102 (.ref 69) rfl rfl kd_59 rfl rfl rfl ?_
    refine P_ld 103 (.int (i32 v2)) rfl (fun _ => rfl) ?_
    refine P_ld 105 (.int (i32 ((m.2 46) v3))) rfl (fun _ => rfl) ?_
    refine P_ck0 108 153 [.ref 59, .ref 69, .int (i32 v2), .int (i32 ((m.2 46) v3))] [] rfl (fun _ => rfl) rfl (D_sp_mark_b61 w m c N D hm v2 ((m.2 46) v3) q2 (kE_i (KCn_a hm 46) rfl _)) (fun y16 n18 => ?_)
    refine P_ld 110 (.ref 45) rfl (fun _ => rfl) ?_
    refine PK_gf 113 (.ref 52) rfl rfl kd_45 rfl rfl rfl ?_
    refine P_ld 114 (.int (i32 v3)) rfl (fun _ => rfl) ?_
    refine PK_iald2 115 45 (y16.2.2 45) rfl rfl rfl q3 rfl ?_
    refine P_ld 118 (.int (i32 324)) rfl (fun _ => rfl) ?_
    refine P_icF 134 121 rfl rfl rfl (kE_i (KCn_a n18 45) rfl _) (l32 324 rfl) rfl (fun h19 => ?_) (fun h19 => ?_)
    · skip
      refine P_lv (b := [(0, .ref 59), (1, .ref 12), (2, .int (i32 v2)), (3, .int (i32 v3)), (4, .ref 45), (5, .int (i32 ((m.2 46) v3)))]) rfl rfl ⟨rfl, rfl, rfl, rfl, rfl, rfl, trivial⟩ ?_
      exact dg_sp_gatherDeed_134 w c N D bb v2 ((m.2 46) v3) q2 (kE_i (KCn_a hm 46) rfl _) y16.2 n18 (jk [(3, v3)])
    · skip
      refine P_ld 123 (.ref 45) rfl (fun _ => rfl) ?_
      refine PK_gf 126 (.ref 52) rfl rfl kd_45 rfl rfl rfl ?_
      refine P_ld 127 (.int (i32 v3)) rfl (fun _ => rfl) ?_
      refine PK_iald2 128 45 (y16.2.2 45) rfl rfl rfl q3 rfl ?_
      refine P_ld 131 (.int (i32 325)) rfl (fun _ => rfl) ?_
      refine P_icE 139 134 rfl rfl rfl (kE_i (KCn_a n18 45) rfl _) (l32 325 rfl) rfl (fun h20 => ?_) (fun h20 => ?_)
      · skip
        refine P_lv (b := [(0, .ref 59), (1, .ref 12), (2, .int (i32 v2)), (3, .int (i32 v3)), (4, .ref 45), (5, .int (i32 ((m.2 46) v3)))]) rfl rfl ⟨rfl, rfl, rfl, rfl, rfl, rfl, trivial⟩ ?_
        exact dg_sp_gatherDeed_134 w c N D bb v2 ((m.2 46) v3) q2 (kE_i (KCn_a hm 46) rfl _) y16.2 n18 (jk [(3, v3)])
      · skip
        refine P_ld 140 (.int (i32 0)) rfl (fun _ => rfl) ?_
        refine P_lv (b := [(0, .ref 59), (1, .ref 12), (2, .int (i32 v2)), (3, .int (i32 v3)), (4, .ref 45), (5, .int (i32 ((m.2 46) v3)))]) rfl rfl ⟨rfl, rfl, rfl, rfl, rfl, rfl, trivial⟩ ?_
        exact dg_sp_gatherDeed_140 w c N D bb v2 ((m.2 46) v3) 0 q2 (kE_i (KCn_a hm 46) rfl _) (l32 0 rfl) y16.2 n18 (jk [(3, v3)])
def kf_sp_gatherDeed (v2 : Int) (v3 : Int) (m : mR) : Option (Int × mR) :=
  bnd (kf_sp_gatherExpr v2 ((m.2 48) v3) ((m.2 49) v3) m) fun y21 =>
  bnd (kf_sp_gatherExpr v2 ((y21.2.2 50) v3) ((y21.2.2 51) v3) y21.2) fun y24 =>
  if (y24.2.2 47) v3 = (-1) then
    kfl_sp_gatherDeed_81 v2 v3 y24.2
  else
    kfl_sp_gatherDeed_81 v2 v3 (mO y24.2 [] [(62, upI (y24.2.2 62) v2 (or32 ((y24.2.2 62) v2) (shl32 1 ((y24.2.2 47) v3))))])
theorem D_sp_gatherDeed (w : wX) (m : mR) (c : Nat → Option am_C) (N D : Nat) (hm : KCn m) (v2 : Int) (v3 : Int) (q2 : R32 v2) (q3 : R32 v3) : PC w D 154 [.ref 59, .ref 12, .int (i32 v2), .int (i32 v3)] (khp m c, N) (QS (FK0 c N) (kf_sp_gatherDeed v2 v3 m)) := by
  refine Pc_of (fun D bb => ?_) D
  unfold kf_sp_gatherDeed
  show PP bb w D pm_154 (0, [(0, .ref 59), (1, .ref 12), (2, .int (i32 v2)), (3, .int (i32 v3))], [], (khp (mO m [] []) c, N), 0, 0) _
  refine P_ld 1 (.ref 12) rfl (fun _ => rfl) ?_
  refine PK_gf 4 (.ref 45) rfl rfl kd_12 rfl rfl rfl ?_
  refine P_sto 6 [(4, .ref 45), (0, .ref 59), (1, .ref 12), (2, .int (i32 v2)), (3, .int (i32 v3))] rfl (fun _ => rfl) ?_
  refine P_ld 7 (.ref 59) rfl (fun _ => rfl) ?_
  refine P_ld 8 (.ref 12) rfl (fun _ => rfl) ?_
  refine PK_gf 11 (.ref 22) rfl rfl kd_12 rfl rfl rfl ?_
  refine P_ld 12 (.int (i32 v2)) rfl (fun _ => rfl) ?_
  refine P_ld 14 (.ref 45) rfl (fun _ => rfl) ?_
  refine PK_gf 17 (.ref 55) rfl rfl kd_45 rfl rfl rfl ?_
  refine P_ld 18 (.int (i32 v3)) rfl (fun _ => rfl) ?_
  refine PK_iald2 19 48 (m.2 48) rfl rfl rfl q3 rfl ?_
  refine P_ld 21 (.ref 45) rfl (fun _ => rfl) ?_
  refine PK_gf 24 (.ref 56) rfl rfl kd_45 rfl rfl rfl ?_
  refine P_ld 25 (.int (i32 v3)) rfl (fun _ => rfl) ?_
  refine PK_iald2 26 49 (m.2 49) rfl rfl rfl q3 rfl ?_
  refine P_ck0 29 152 [.ref 59, .ref 22, .int (i32 v2), .int (i32 ((m.2 48) v3)), .int (i32 ((m.2 49) v3))] [] rfl (fun _ => rfl) rfl (D_sp_gatherExpr w m c N D hm v2 ((m.2 48) v3) ((m.2 49) v3) q2 (kE_i (KCn_a hm 48) rfl _) (kE_i (KCn_a hm 49) rfl _)) (fun y21 n23 => ?_)
  refine P_ld 30 (.ref 59) rfl (fun _ => rfl) ?_
  refine P_ld 31 (.ref 12) rfl (fun _ => rfl) ?_
  refine PK_gf 34 (.ref 22) rfl rfl kd_12 rfl rfl rfl ?_
  refine P_ld 35 (.int (i32 v2)) rfl (fun _ => rfl) ?_
  refine P_ld 37 (.ref 45) rfl (fun _ => rfl) ?_
  refine PK_gf 40 (.ref 57) rfl rfl kd_45 rfl rfl rfl ?_
  refine P_ld 41 (.int (i32 v3)) rfl (fun _ => rfl) ?_
  refine PK_iald2 42 50 (y21.2.2 50) rfl rfl rfl q3 rfl ?_
  refine P_ld 44 (.ref 45) rfl (fun _ => rfl) ?_
  refine PK_gf 47 (.ref 58) rfl rfl kd_45 rfl rfl rfl ?_
  refine P_ld 48 (.int (i32 v3)) rfl (fun _ => rfl) ?_
  refine PK_iald2 49 51 (y21.2.2 51) rfl rfl rfl q3 rfl ?_
  refine P_ck0 52 152 [.ref 59, .ref 22, .int (i32 v2), .int (i32 ((y21.2.2 50) v3)), .int (i32 ((y21.2.2 51) v3))] [] rfl (fun _ => rfl) rfl (D_sp_gatherExpr w y21.2 c N D n23 v2 ((y21.2.2 50) v3) ((y21.2.2 51) v3) q2 (kE_i (KCn_a n23 50) rfl _) (kE_i (KCn_a n23 51) rfl _)) (fun y24 n26 => ?_)
  refine P_ld 54 (.ref 45) rfl (fun _ => rfl) ?_
  refine PK_gf 57 (.ref 54) rfl rfl kd_45 rfl rfl rfl ?_
  refine P_ld 58 (.int (i32 v3)) rfl (fun _ => rfl) ?_
  refine PK_iald2 59 47 (y24.2.2 47) rfl rfl rfl q3 rfl ?_
  refine P_ld 60 (.int (i32 (-1))) rfl (fun _ => rfl) ?_
  refine P_icF 81 63 rfl rfl rfl (kE_i (KCn_a n26 47) rfl _) (l32 (-1) rfl) rfl (fun h27 => ?_) (fun h27 => ?_)
  · skip
    refine P_lv (b := [(0, .ref 59), (1, .ref 12), (2, .int (i32 v2)), (3, .int (i32 v3)), (4, .ref 45)]) rfl rfl ⟨rfl, rfl, rfl, rfl, rfl, trivial⟩ ?_
    exact dg_sp_gatherDeed_81 w c N D bb v2 v3 q2 q3 y24.2 n26 (jk [])
  · skip
    refine P_ld 64 (.ref 59) rfl (fun _ => rfl) ?_
    refine PK_gf 67 (.ref 70) rfl rfl kd_59 rfl rfl rfl ?_
    refine P_ld 68 (.int (i32 v2)) rfl (fun _ => rfl) ?_
    refine P_dup2 69 rfl (fun _ => rfl) ?_
    refine PK_iald2 70 62 (y24.2.2 62) rfl rfl rfl q2 rfl ?_
    refine P_ld 71 (.int (i32 1)) rfl (fun _ => rfl) ?_
    refine P_ld 73 (.ref 45) rfl (fun _ => rfl) ?_
    refine PK_gf 76 (.ref 54) rfl rfl kd_45 rfl rfl rfl ?_
    refine P_ld 77 (.int (i32 v3)) rfl (fun _ => rfl) ?_
    refine PK_iald2 78 47 (y24.2.2 47) rfl rfl rfl q3 rfl ?_
    refine P_op 79 (shl32 1 ((y24.2.2 47) v3)) _ rfl (fun _ => rfl) (i32_of _).symm ?_
    refine P_op 80 (or32 ((y24.2.2 62) v2) (shl32 1 ((y24.2.2 47) v3))) _ rfl (fun _ => rfl) (i32_of _).symm ?_
    refine PK_iast2 (a' := [(62, upI (y24.2.2 62) v2 (or32 ((y24.2.2 62) v2) (shl32 1 ((y24.2.2 47) v3))))]) 81 62 (y24.2.2 62) rfl rfl rfl q2 rfl rfl ?_
    refine P_lv (b := [(0, .ref 59), (1, .ref 12), (2, .int (i32 v2)), (3, .int (i32 v3)), (4, .ref 45)]) rfl rfl ⟨rfl, rfl, rfl, rfl, rfl, trivial⟩ ?_
    exact dg_sp_gatherDeed_81 w c N D bb v2 v3 q2 q3 (mO y24.2 [] [(62, upI (y24.2.2 62) v2 (or32 ((y24.2.2 62) v2) (shl32 1 ((y24.2.2 47) v3))))]) (KCn_mO n26 rfl rfl trivial ⟨(kE_ui (KCn_a n26 62) rfl t32_r), trivial⟩) (jk [])
end X28P
