noncomputable section X55BA
def rf_comes (v1 : Int) (m : mR) : Option (Int × mR) :=
  some (cut ((cut ((m.1 148) + 1)) - 1), (mO m [(148, cut ((m.1 148) + 1)), (149, cut ((m.1 149) + 1))] [(153, upI (m.2 153) (m.1 149) v1)]))
theorem D_comes (w : wX) (m : mR) (c : Nat → Option am_C) (N D : Nat) (hm : Cn m) (v1 : Int) (q1 : R32 v1) : PC w D 308 [.ref 189, .int (i32 v1)] (mhp m c, N) (QS (FR1 c N) (rf_comes v1 m)) := by
  refine Pc_of (fun D bb => ?_) D
  unfold rf_comes
  show PP bb w D pm_308 (0, [(0, .ref 189), (1, .int (i32 v1))], [], (mhp (mO m [] []) c, N), 0, 0) _
  refine P_gf 4 (.ref 302) rfl rfl rfl rfl rfl rfl ?_
  refine P_gf 8 (.int (i32 (m.1 149))) rfl rfl rfl rfl rfl rfl ?_
  refine P_ld 9 (.int (i32 v1)) rfl (fun _ => rfl) ?_
  refine P_iast2 (a' := [(153, upI (m.2 153) (m.1 149) v1)]) 10 153 (m.2 153) rfl rfl rfl (Cn_i hm 149 rfl) rfl rfl ?_
  refine P_ld 11 (.ref 189) rfl (fun _ => rfl) ?_
  refine P_ld 12 (.ref 189) rfl (fun _ => rfl) ?_
  refine P_gf1 15 (.int (i32 (m.1 149))) rfl rfl rfl rfl ?_
  refine P_ld 16 (.int (i32 1)) rfl (fun _ => rfl) ?_
  refine P_op 17 (cut ((m.1 149) + 1)) _ rfl (fun _ => rfl) o_add ?_
  refine P_pf (l' := [(149, cut ((m.1 149) + 1))]) 20 (cut ((m.1 149) + 1)) rfl rfl rfl rfl rfl rfl ?_
  refine P_ld 21 (.ref 189) rfl (fun _ => rfl) ?_
  refine P_ld 22 (.ref 189) rfl (fun _ => rfl) ?_
  refine P_gf1 25 (.int (i32 (m.1 148))) rfl rfl rfl rfl ?_
  refine P_ld 26 (.int (i32 1)) rfl (fun _ => rfl) ?_
  refine P_op 27 (cut ((m.1 148) + 1)) _ rfl (fun _ => rfl) o_add ?_
  refine P_pf (l' := [(148, cut ((m.1 148) + 1)), (149, cut ((m.1 149) + 1))]) 30 (cut ((m.1 148) + 1)) rfl rfl rfl rfl rfl rfl ?_
  refine P_gf 34 (.int (i32 (cut ((m.1 148) + 1)))) rfl rfl rfl rfl rfl rfl ?_
  refine P_ld 35 (.int (i32 1)) rfl (fun _ => rfl) ?_
  refine P_op 36 (cut ((cut ((m.1 148) + 1)) - 1)) _ rfl (fun _ => rfl) o_sub ?_
  exact P_re1 rfl cut_r (Cn_mO hm ⟨(rV_i rfl cut_r), (rV_i rfl cut_r), trivial⟩ ⟨(rE_ui (Cn_a hm 153) rfl q1), trivial⟩)
def cs_packet_73 (s : Int × mR) : Prop := R32 s.1 ∧ Cn s.2
def cx_packet_73 : (mR) → Prop := (fun (e : mR) => Cn e)
def hd_packet_73 (c : Nat → Option am_C) (N : Nat) (s : Int × mR) (j : Nat → Int) : ag_St af_T := (73, [(0, .ref 189), (1, .int (i32 (j 1))), (2, .int (i32 s.1))], [], (mhp s.2 c, N), 0, 0)
def ex_packet_73 (c : Nat → Option am_C) (N : Nat) : (mR) → (Nat → Int) → ag_St af_T := (fun (e : mR) (j : Nat → Int) => ((108, [(0, .ref 189), (1, .int (i32 (j 1))), (2, .int (i32 (j 2)))], [], (mhp e c, N), 0, 0) : ag_St af_T))
def rfl_packet_118 (u0 : Int) (m : mR) : Option (Int × mR) :=
  some (u0, m)
theorem dg_packet_118 (w : wX) (c : Nat → Option am_C) (N D : Nat) (bb : Nat) (u0 : Int) (r0 : R32 u0) (m : mR) (hm : Cn m) (j : Nat → Int) : PP bb w D pm_307 (118, [(0, .ref 189), (1, .int (i32 (j 1))), (2, .int (i32 (j 2)))], [.int (i32 u0)], (mhp m c, N), 0, 0) (QS (FR1 c N) (rfl_packet_118 u0 m)) := by
  unfold rfl_packet_118
  show PP bb w D pm_307 (118, [(0, .ref 189), (1, .int (i32 (j 1))), (2, .int (i32 (j 2)))], [.int (i32 u0)], (mhp (mO m [] []) c, N), 0, 0) _
  exact P_re1 rfl r0 hm
def rfl_packet_108 (m : mR) : Option (Int × mR) :=
  bnd (rf_comes 0 (mO m [(5, 0)] [])) fun y2 =>
  rfl_packet_118 y2.1 y2.2
theorem dg_packet_108 (w : wX) (c : Nat → Option am_C) (N D : Nat) (bb : Nat) (m : mR) (hm : Cn m) (j : Nat → Int) : PP bb w D pm_307 (108, [(0, .ref 189), (1, .int (i32 (j 1))), (2, .int (i32 (j 2)))], [], (mhp m c, N), 0, 0) (QS (FR1 c N) (rfl_packet_108 m)) := by
  unfold rfl_packet_108
  show PP bb w D pm_307 (108, [(0, .ref 189), (1, .int (i32 (j 1))), (2, .int (i32 (j 2)))], [], (mhp (mO m [] []) c, N), 0, 0) _
  refine P_ld 109 (.ref 189) rfl (fun _ => rfl) ?_
  refine P_ld 110 (.int (i32 0)) rfl (fun _ => rfl) ?_
  refine P_pf (l' := [(5, 0)]) 113 0 rfl rfl rfl rfl rfl rfl ?_
  refine P_ld 114 (.ref 189) rfl (fun _ => rfl) ?_
  refine P_ld 115 (.int (i32 0)) rfl (fun _ => rfl) ?_
  refine P_ca1 118 308 [.ref 189, .int (i32 0)] [] rfl (fun _ => rfl) rfl (D_comes w (mO m [(5, 0)] []) c N D (Cn_mO hm ⟨(rV_i rfl (l32 0 rfl)), trivial⟩ trivial) 0 (l32 0 rfl)) (fun y2 h3 n4 => ?_)
  exact dg_packet_118 w c N D bb y2.1 h3 y2.2 n4 (jk [(1, j 1), (2, j 2)])
def rfb_packet_73 (s : Int × mR) : Option (Sum (Int × mR) (mR)) :=
  if s.2.1 5 ≤ s.1 then
    some (.inr s.2)
  else
    some (.inl (cut (s.1 + 1), (mO s.2 [] [(159, upI (s.2.2 159) (cut ((cut (128 * (s.2.1 149))) + s.1)) ((s.2.2 3) s.1))])))
theorem dh_packet_73 (w : wX) (c : Nat → Option am_C) (N D : Nat) (bb : Nat) (Q2 : Sum (Int × mR) (mR) → ag_Re af_T → Prop) (H1 : ∀ s j, cs_packet_73 s → PP bb w D pm_307 (hd_packet_73 c N s j) (Q2 (.inl s))) (H2 : ∀ x j, cx_packet_73 x → PP bb w D pm_307 (ex_packet_73 c N x j) (Q2 (.inr x))) (s : Int × mR) (j : Nat → Int) (hs : cs_packet_73 s) : PP (bb + 1) w D pm_307 (hd_packet_73 c N s j) (QS Q2 (rfb_packet_73 s)) := by
  obtain ⟨g2, gm⟩ := hs
  unfold rfb_packet_73
  show PP (bb + 1) w D pm_307 (73, [(0, .ref 189), (1, .int (i32 (j 1))), (2, .int (i32 s.1))], [], (mhp (mO s.2 [] []) c, N), 0, 0) _
  refine P1_ld 74 (.int (i32 s.1)) rfl (fun _ => rfl) ?_
  refine P_gf 78 (.int (i32 (s.2.1 5))) rfl rfl rfl rfl rfl rfl ?_
  refine P_icF 108 81 rfl rfl rfl g2 (Cn_i gm 5 rfl) rfl (fun h6 => ?_) (fun h6 => ?_)
  · skip
    refine P_some ?_
    exact H2 s.2 (jk [(1, j 1), (2, s.1)]) gm
  · skip
    refine P_gf 85 (.ref 308) rfl rfl rfl rfl rfl rfl ?_
    refine P_ld 88 (.int (i32 128)) rfl (fun _ => rfl) ?_
    refine P_gf 92 (.int (i32 (s.2.1 149))) rfl rfl rfl rfl rfl rfl ?_
    refine P_op 93 (cut (128 * (s.2.1 149))) _ rfl (fun _ => rfl) o_mul ?_
    refine P_ld 94 (.int (i32 s.1)) rfl (fun _ => rfl) ?_
    refine P_op 95 (cut ((cut (128 * (s.2.1 149))) + s.1)) _ rfl (fun _ => rfl) o_add ?_
    refine P_gf 99 (.ref 192) rfl rfl rfl rfl rfl rfl ?_
    refine P_ld 100 (.int (i32 s.1)) rfl (fun _ => rfl) ?_
    refine P_iald2 101 3 (s.2.2 3) rfl rfl rfl g2 rfl ?_
    refine P_iast2 (a' := [(159, upI (s.2.2 159) (cut ((cut (128 * (s.2.1 149))) + s.1)) ((s.2.2 3) s.1))]) 102 159 (s.2.2 159) rfl rfl rfl cut_r rfl rfl ?_
    refine P_inc 105 [(2, .int (i32 (cut (s.1 + 1)))), (0, .ref 189), (1, .int (i32 (j 1)))] rfl rfl (by decide) rfl rfl ?_
    refine P_goto 73 rfl (fun _ => rfl) ?_
    refine P_some ?_
    refine P_lv (b := [(0, .ref 189), (1, .int (i32 (j 1))), (2, .int (i32 (cut (s.1 + 1))))]) rfl rfl ⟨rfl, rfl, rfl, trivial⟩ ?_
    exact H1 (cut (s.1 + 1), (mO s.2 [] [(159, upI (s.2.2 159) (cut ((cut (128 * (s.2.1 149))) + s.1)) ((s.2.2 3) s.1))])) (jk [(1, j 1)]) ⟨cut_r, (Cn_mO gm trivial ⟨(rE_ui (Cn_a gm 159) rfl (rE_i (Cn_a gm 3) rfl _)), trivial⟩)⟩
def rfl_packet_36 (v1 : Int) (u1 : Int) (m : mR) : Option (Int × mR) :=
  if u1 ≤ 0 then
    bnd (whl rfb_packet_73 (0, (mO m [(1, u1)] [(154, upI (m.2 154) (m.1 149) (m.1 5)), (155, upI (m.2 155) (m.1 149) v1)]))) (fun e8 : mR =>
      rfl_packet_108 e8)
  else
    some (0, (mO m [(1, u1)] []))
theorem dg_packet_36 (w : wX) (c : Nat → Option am_C) (N D : Nat) (bb : Nat) (v1 : Int) (u1 : Int) (q1 : R32 v1) (r1 : R32 u1) (m : mR) (hm : Cn m) (j : Nat → Int) : PP bb w D pm_307 (36, [(0, .ref 189), (1, .int (i32 v1))], [.int (i32 u1), .ref 189], (mhp m c, N), 0, 0) (QS (FR1 c N) (rfl_packet_36 v1 u1 m)) := by
  unfold rfl_packet_36
  show PP bb w D pm_307 (36, [(0, .ref 189), (1, .int (i32 v1))], [.int (i32 u1), .ref 189], (mhp (mO m [] []) c, N), 0, 0) _
  refine P_pf (l' := [(1, u1)]) 39 u1 rfl rfl rfl rfl rfl rfl ?_
  refine P_gf 43 (.int (i32 u1)) rfl rfl rfl rfl rfl rfl ?_
  refine P_ifF 48 46 rfl rfl rfl r1 rfl (fun h7 => ?_) (fun h7 => ?_)
  · skip
    refine P_gf 52 (.ref 303) rfl rfl rfl rfl rfl rfl ?_
    refine P_gf 56 (.int (i32 (m.1 149))) rfl rfl rfl rfl rfl rfl ?_
    refine P_gf 60 (.int (i32 (m.1 5))) rfl rfl rfl rfl rfl rfl ?_
    refine P_iast2 (a' := [(154, upI (m.2 154) (m.1 149) (m.1 5))]) 61 154 (m.2 154) rfl rfl rfl (Cn_i hm 149 rfl) rfl rfl ?_
    refine P_gf 65 (.ref 304) rfl rfl rfl rfl rfl rfl ?_
    refine P_gf 69 (.int (i32 (m.1 149))) rfl rfl rfl rfl rfl rfl ?_
    refine P_ld 70 (.int (i32 v1)) rfl (fun _ => rfl) ?_
    refine P_iast2 (a' := [(154, upI (m.2 154) (m.1 149) (m.1 5)), (155, upI (m.2 155) (m.1 149) v1)]) 71 155 (m.2 155) rfl rfl rfl (Cn_i hm 149 rfl) rfl rfl ?_
    refine P_ld 72 (.int (i32 0)) rfl (fun _ => rfl) ?_
    refine P_sto 73 [(2, .int (i32 0)), (0, .ref 189), (1, .int (i32 v1))] rfl (fun _ => rfl) ?_
    refine P_lv (b := [(0, .ref 189), (1, .int (i32 v1)), (2, .int (i32 0))]) rfl rfl ⟨rfl, rfl, rfl, trivial⟩ ?_
    refine P_bnd ?_
    refine P_whl (fun bb Q2 H1 H2 s9 j9 hs9 => dh_packet_73 w c N D bb Q2 H1 H2 s9 j9 hs9) bb (fun e8 j q9 => ?_) (0, (mO m [(1, u1)] [(154, upI (m.2 154) (m.1 149) (m.1 5)), (155, upI (m.2 155) (m.1 149) v1)])) (jk [(1, v1)]) ⟨(l32 0 rfl), (Cn_mO hm ⟨(rV_i rfl r1), trivial⟩ ⟨(rE_ui (Cn_a hm 154) rfl (Cn_i hm 5 rfl)), (rE_ui (Cn_a hm 155) rfl q1), trivial⟩)⟩
    have q10 := q9
    show PP bb w D pm_307 (108, [(0, .ref 189), (1, .int (i32 (j 1))), (2, .int (i32 (j 2)))], [], (mhp (mO e8 [] []) c, N), 0, 0) (QS _ (rfl_packet_108 e8))
    exact dg_packet_108 w c N D bb e8 q10 (jk [(1, j 1), (2, j 2)])
  · skip
    refine P_ld 47 (.int (i32 0)) rfl (fun _ => rfl) ?_
    exact P_re1 rfl (l32 0 rfl) (Cn_mO hm ⟨(rV_i rfl r1), trivial⟩ trivial)
def rfl_packet_17 (v1 : Int) (m : mR) : Option (Int × mR) :=
  rfl_packet_36 v1 1 m
theorem dg_packet_17 (w : wX) (c : Nat → Option am_C) (N D : Nat) (bb : Nat) (v1 : Int) (q1 : R32 v1) (m : mR) (hm : Cn m) (j : Nat → Int) : PP bb w D pm_307 (17, [(0, .ref 189), (1, .int (i32 v1))], [.ref 189], (mhp m c, N), 0, 0) (QS (FR1 c N) (rfl_packet_17 v1 m)) := by
  unfold rfl_packet_17
  show PP bb w D pm_307 (17, [(0, .ref 189), (1, .int (i32 v1))], [.ref 189], (mhp (mO m [] []) c, N), 0, 0) _
  refine P_ld 18 (.int (i32 1)) rfl (fun _ => rfl) ?_
  refine P_goto 36 rfl (fun _ => rfl) ?_
  exact dg_packet_36 w c N D bb v1 1 q1 (l32 1 rfl) m hm (jk [])
def rf_packet (v1 : Int) (m : mR) : Option (Int × mR) :=
  if m.1 128 = 0 then
    rfl_packet_17 v1 m
  else
    if m.1 149 = 40 then
      rfl_packet_17 v1 m
    else
      if m.1 5 ≤ 128 then
        rfl_packet_36 v1 0 m
      else
        rfl_packet_36 v1 2 m
theorem D_packet (w : wX) (m : mR) (c : Nat → Option am_C) (N D : Nat) (hm : Cn m) (v1 : Int) (q1 : R32 v1) : PC w D 307 [.ref 189, .int (i32 v1)] (mhp m c, N) (QS (FR1 c N) (rf_packet v1 m)) := by
  refine Pc_of (fun D bb => ?_) D
  unfold rf_packet
  show PP bb w D pm_307 (0, [(0, .ref 189), (1, .int (i32 v1))], [], (mhp (mO m [] []) c, N), 0, 0) _
  refine P_ld 1 (.ref 189) rfl (fun _ => rfl) ?_
  refine P_gf 5 (.int (i32 (m.1 128))) rfl rfl rfl rfl rfl rfl ?_
  refine P_ifF 17 8 rfl rfl rfl (Cn_i hm 128 rfl) rfl (fun h11 => ?_) (fun h11 => ?_)
  · skip
    exact dg_packet_17 w c N D bb v1 q1 m hm (jk [])
  · skip
    refine P_gf 12 (.int (i32 (m.1 149))) rfl rfl rfl rfl rfl rfl ?_
    refine P_ld 14 (.int (i32 40)) rfl (fun _ => rfl) ?_
    refine P_icE 21 17 rfl rfl rfl (Cn_i hm 149 rfl) (l32 40 rfl) rfl (fun h12 => ?_) (fun h12 => ?_)
    · skip
      exact dg_packet_17 w c N D bb v1 q1 m hm (jk [])
    · skip
      refine P_gf 25 (.int (i32 (m.1 5))) rfl rfl rfl rfl rfl rfl ?_
      refine P_ld 28 (.int (i32 128)) rfl (fun _ => rfl) ?_
      refine P_icF 35 31 rfl rfl rfl (Cn_i hm 5 rfl) (l32 128 rfl) rfl (fun h13 => ?_) (fun h13 => ?_)
      · skip
        refine P_ld 36 (.int (i32 0)) rfl (fun _ => rfl) ?_
        exact dg_packet_36 w c N D bb v1 0 q1 (l32 0 rfl) m hm (jk [])
      · skip
        refine P_ld 32 (.int (i32 2)) rfl (fun _ => rfl) ?_
        refine P_goto 36 rfl (fun _ => rfl) ?_
        exact dg_packet_36 w c N D bb v1 2 q1 (l32 2 rfl) m hm (jk [])
def rfl_key_14 (v1 : Int) (v2 : Int) (v4 : Int) (u1 : Int) (m : mR) : Option (Int × mR) :=
  if u1 ≤ 0 then
    some (0, (mO m [(1, u1)] [(145, upI (m.2 145) v1 v2), (146, upI (m.2 146) v1 v4)]))
  else
    some (0, (mO m [(1, u1)] []))
theorem dg_key_14 (w : wX) (c : Nat → Option am_C) (N D : Nat) (bb : Nat) (v1 : Int) (v2 : Int) (v4 : Int) (u1 : Int) (q1 : R32 v1) (q2 : R64 v2) (q4 : R64 v4) (r1 : R32 u1) (m : mR) (hm : Cn m) (j : Nat → Int) : PP bb w D pm_309 (14, [(0, .ref 189), (1, .int (i32 v1)), (2, .long (i64 v2)), (4, .long (i64 v4))], [.int (i32 u1), .ref 189], (mhp m c, N), 0, 0) (QS (FR0 c N) (rfl_key_14 v1 v2 v4 u1 m)) := by
  unfold rfl_key_14
  show PP bb w D pm_309 (14, [(0, .ref 189), (1, .int (i32 v1)), (2, .long (i64 v2)), (4, .long (i64 v4))], [.int (i32 u1), .ref 189], (mhp (mO m [] []) c, N), 0, 0) _
  refine P_pf (l' := [(1, u1)]) 17 u1 rfl rfl rfl rfl rfl rfl ?_
  refine P_gf 21 (.int (i32 u1)) rfl rfl rfl rfl rfl rfl ?_
  refine P_ifF 25 24 rfl rfl rfl r1 rfl (fun h1 => ?_) (fun h1 => ?_)
  · skip
    refine P_gf 29 (.ref 299) rfl rfl rfl rfl rfl rfl ?_
    refine P_ld 30 (.int (i32 v1)) rfl (fun _ => rfl) ?_
    refine P_ld 31 (.long (i64 v2)) rfl (fun _ => rfl) ?_
    refine P_last2 (a' := [(145, upI (m.2 145) v1 v2)]) 32 145 (m.2 145) rfl rfl rfl q1 rfl rfl ?_
    refine P_gf 36 (.ref 300) rfl rfl rfl rfl rfl rfl ?_
    refine P_ld 37 (.int (i32 v1)) rfl (fun _ => rfl) ?_
    refine P_ld 39 (.long (i64 v4)) rfl (fun _ => rfl) ?_
    refine P_last2 (a' := [(145, upI (m.2 145) v1 v2), (146, upI (m.2 146) v1 v4)]) 40 146 (m.2 146) rfl rfl rfl q1 rfl rfl ?_
    exact P_re0 rfl rfl (Cn_mO hm ⟨(rV_i rfl r1), trivial⟩ ⟨(rE_ul (Cn_a hm 145) rfl q2), (rE_ul (Cn_a hm 146) rfl q4), trivial⟩)
  · skip
    exact P_re0 rfl rfl (Cn_mO hm ⟨(rV_i rfl r1), trivial⟩ trivial)
def rf_key (v1 : Int) (v2 : Int) (v4 : Int) (m : mR) : Option (Int × mR) :=
  bnd (rf_in v1 4) fun y2 =>
  if y2 = 0 then
    rfl_key_14 v1 v2 v4 1 m
  else
    rfl_key_14 v1 v2 v4 0 m
theorem D_key (w : wX) (m : mR) (c : Nat → Option am_C) (N D : Nat) (hm : Cn m) (v1 : Int) (v2 : Int) (v4 : Int) (q1 : R32 v1) (q2 : R64 v2) (q4 : R64 v4) : PC w D 309 [.ref 189, .int (i32 v1), .long (i64 v2), .long (i64 v4)] (mhp m c, N) (QS (FR0 c N) (rf_key v1 v2 v4 m)) := by
  refine Pc_of (fun D bb => ?_) D
  unfold rf_key
  show PP bb w D pm_309 (0, [(0, .ref 189), (1, .int (i32 v1)), (2, .long (i64 v2)), (4, .long (i64 v4))], [], (mhp (mO m [] []) c, N), 0, 0) _
  refine P_ld 1 (.ref 189) rfl (fun _ => rfl) ?_
  refine P_ld 2 (.int (i32 v1)) rfl (fun _ => rfl) ?_
  refine P_ld 3 (.int (i32 4)) rfl (fun _ => rfl) ?_
  refine P_cp1 6 305 [.int (i32 v1), .int (i32 4)] [.ref 189] rfl (fun _ => rfl) rfl (D_in w _ D v1 4 q1 (l32 4 rfl)) (fun y2 h3 => ?_)
  refine P_ifF 13 9 rfl rfl rfl h3 rfl (fun h4 => ?_) (fun h4 => ?_)
  · skip
    refine P_ld 14 (.int (i32 1)) rfl (fun _ => rfl) ?_
    exact dg_key_14 w c N D bb v1 v2 v4 1 q1 q2 q4 (l32 1 rfl) m hm (jk [])
  · skip
    refine P_ld 10 (.int (i32 0)) rfl (fun _ => rfl) ?_
    refine P_goto 14 rfl (fun _ => rfl) ?_
    exact dg_key_14 w c N D bb v1 v2 v4 0 q1 q2 q4 (l32 0 rfl) m hm (jk [])
def rfl_datum_14 (v1 : Int) (v2 : Int) (u1 : Int) (m : mR) : Option (Int × mR) :=
  if u1 = 0 then
    some (0, (mO m [(1, u1)] [(147, upI (m.2 147) v1 v2)]))
  else
    some (0, (mO m [(1, u1)] []))
theorem dg_datum_14 (w : wX) (c : Nat → Option am_C) (N D : Nat) (bb : Nat) (v1 : Int) (v2 : Int) (u1 : Int) (q1 : R32 v1) (q2 : R64 v2) (r1 : R32 u1) (m : mR) (hm : Cn m) (j : Nat → Int) : PP bb w D pm_310 (14, [(0, .ref 189), (1, .int (i32 v1)), (2, .long (i64 v2))], [.int (i32 u1), .ref 189], (mhp m c, N), 0, 0) (QS (FR0 c N) (rfl_datum_14 v1 v2 u1 m)) := by
  unfold rfl_datum_14
  show PP bb w D pm_310 (14, [(0, .ref 189), (1, .int (i32 v1)), (2, .long (i64 v2))], [.int (i32 u1), .ref 189], (mhp (mO m [] []) c, N), 0, 0) _
  refine P_pf (l' := [(1, u1)]) 17 u1 rfl rfl rfl rfl rfl rfl ?_
  refine P_gf 21 (.int (i32 u1)) rfl rfl rfl rfl rfl rfl ?_
  refine P_ifE 31 24 rfl rfl rfl r1 rfl (fun h1 => ?_) (fun h1 => ?_)
  · skip
    refine P_gf 28 (.ref 301) rfl rfl rfl rfl rfl rfl ?_
    refine P_ld 29 (.int (i32 v1)) rfl (fun _ => rfl) ?_
    refine P_ld 30 (.long (i64 v2)) rfl (fun _ => rfl) ?_
    refine P_last2 (a' := [(147, upI (m.2 147) v1 v2)]) 31 147 (m.2 147) rfl rfl rfl q1 rfl rfl ?_
    exact P_re0 rfl rfl (Cn_mO hm ⟨(rV_i rfl r1), trivial⟩ ⟨(rE_ul (Cn_a hm 147) rfl q2), trivial⟩)
  · skip
    exact P_re0 rfl rfl (Cn_mO hm ⟨(rV_i rfl r1), trivial⟩ trivial)
def rf_datum (v1 : Int) (v2 : Int) (m : mR) : Option (Int × mR) :=
  bnd (rf_in v1 4) fun y2 =>
  if y2 = 0 then
    rfl_datum_14 v1 v2 1 m
  else
    rfl_datum_14 v1 v2 0 m
theorem D_datum (w : wX) (m : mR) (c : Nat → Option am_C) (N D : Nat) (hm : Cn m) (v1 : Int) (v2 : Int) (q1 : R32 v1) (q2 : R64 v2) : PC w D 310 [.ref 189, .int (i32 v1), .long (i64 v2)] (mhp m c, N) (QS (FR0 c N) (rf_datum v1 v2 m)) := by
  refine Pc_of (fun D bb => ?_) D
  unfold rf_datum
  show PP bb w D pm_310 (0, [(0, .ref 189), (1, .int (i32 v1)), (2, .long (i64 v2))], [], (mhp (mO m [] []) c, N), 0, 0) _
  refine P_ld 1 (.ref 189) rfl (fun _ => rfl) ?_
  refine P_ld 2 (.int (i32 v1)) rfl (fun _ => rfl) ?_
  refine P_ld 3 (.int (i32 4)) rfl (fun _ => rfl) ?_
  refine P_cp1 6 305 [.int (i32 v1), .int (i32 4)] [.ref 189] rfl (fun _ => rfl) rfl (D_in w _ D v1 4 q1 (l32 4 rfl)) (fun y2 h3 => ?_)
  refine P_ifF 13 9 rfl rfl rfl h3 rfl (fun h4 => ?_) (fun h4 => ?_)
  · skip
    refine P_ld 14 (.int (i32 1)) rfl (fun _ => rfl) ?_
    exact dg_datum_14 w c N D bb v1 v2 1 q1 q2 (l32 1 rfl) m hm (jk [])
  · skip
    refine P_ld 10 (.int (i32 0)) rfl (fun _ => rfl) ?_
    refine P_goto 14 rfl (fun _ => rfl) ?_
    exact dg_datum_14 w c N D bb v1 v2 0 q1 q2 (l32 0 rfl) m hm (jk [])
def cs_entry_98 (s : Int × mR) : Prop := R32 s.1 ∧ Cn s.2
def cx_entry_98 : (mR) → Prop := (fun (e : mR) => Cn e)
def hd_entry_98 (c : Nat → Option am_C) (N : Nat) (v1 : Int) (s : Int × mR) (j : Nat → Int) : ag_St af_T := (98, [(0, .ref 189), (1, .int (i32 v1)), (2, .int (i32 (j 2))), (3, .int (i32 (j 3))), (4, .int (i32 (j 4))), (5, .int (i32 s.1))], [], (mhp s.2 c, N), 0, 0)
def ex_entry_98 (c : Nat → Option am_C) (N : Nat) (v1 : Int) : (mR) → (Nat → Int) → ag_St af_T := (fun (e : mR) (j : Nat → Int) => ((173, [(0, .ref 189), (1, .int (i32 v1)), (2, .int (i32 (j 2))), (3, .int (i32 (j 3))), (4, .int (i32 (j 4))), (5, .int (i32 (j 5)))], [], (mhp e c, N), 0, 0) : ag_St af_T))
def rfl_entry_180 (u0 : Int) (m : mR) : Option (Int × mR) :=
  some (u0, m)
theorem dg_entry_180 (w : wX) (c : Nat → Option am_C) (N D : Nat) (bb : Nat) (u0 : Int) (r0 : R32 u0) (m : mR) (hm : Cn m) (j : Nat → Int) : PP bb w D pm_311 (180, [(0, .ref 189), (1, .int (i32 (j 1))), (2, .int (i32 (j 2))), (3, .int (i32 (j 3))), (4, .int (i32 (j 4))), (5, .int (i32 (j 5)))], [.int (i32 u0)], (mhp m c, N), 0, 0) (QS (FR1 c N) (rfl_entry_180 u0 m)) := by
  unfold rfl_entry_180
  show PP bb w D pm_311 (180, [(0, .ref 189), (1, .int (i32 (j 1))), (2, .int (i32 (j 2))), (3, .int (i32 (j 3))), (4, .int (i32 (j 4))), (5, .int (i32 (j 5)))], [.int (i32 u0)], (mhp (mO m [] []) c, N), 0, 0) _
  exact P_re1 rfl r0 hm
def rfl_entry_173 (v1 : Int) (m : mR) : Option (Int × mR) :=
  bnd (rf_comes (cut (1 + v1)) m) fun y2 =>
  rfl_entry_180 y2.1 y2.2
theorem dg_entry_173 (w : wX) (c : Nat → Option am_C) (N D : Nat) (bb : Nat) (v1 : Int) (q1 : R32 v1) (m : mR) (hm : Cn m) (j : Nat → Int) : PP bb w D pm_311 (173, [(0, .ref 189), (1, .int (i32 v1)), (2, .int (i32 (j 2))), (3, .int (i32 (j 3))), (4, .int (i32 (j 4))), (5, .int (i32 (j 5)))], [], (mhp m c, N), 0, 0) (QS (FR1 c N) (rfl_entry_173 v1 m)) := by
  unfold rfl_entry_173
  show PP bb w D pm_311 (173, [(0, .ref 189), (1, .int (i32 v1)), (2, .int (i32 (j 2))), (3, .int (i32 (j 3))), (4, .int (i32 (j 4))), (5, .int (i32 (j 5)))], [], (mhp (mO m [] []) c, N), 0, 0) _
  refine P_ld 174 (.ref 189) rfl (fun _ => rfl) ?_
  refine P_ld 175 (.int (i32 1)) rfl (fun _ => rfl) ?_
  refine P_ld 176 (.int (i32 v1)) rfl (fun _ => rfl) ?_
  refine P_op 177 (cut (1 + v1)) _ rfl (fun _ => rfl) o_add ?_
  refine P_ca1 180 308 [.ref 189, .int (i32 (cut (1 + v1)))] [] rfl (fun _ => rfl) rfl (D_comes w m c N D hm (cut (1 + v1)) cut_r) (fun y2 h3 n4 => ?_)
  exact dg_entry_180 w c N D bb y2.1 h3 y2.2 n4 (jk [(1, v1), (2, j 2), (3, j 3), (4, j 4), (5, j 5)])
def rfb_entry_98 (v1 : Int) (s : Int × mR) : Option (Sum (Int × mR) (mR)) :=
  if (4 : Int) ≤ s.1 then
    some (.inr s.2)
  else
    some (.inl (cut (s.1 + 1), (mO s.2 [] [(160, upI (s.2.2 160) (cut ((cut (4 * (s.2.1 149))) + s.1)) ((s.2.2 145) s.1)), (161, upI (s.2.2 161) (cut ((cut (4 * (s.2.1 149))) + s.1)) ((s.2.2 146) s.1)), (162, upI (s.2.2 162) (cut ((cut (4 * (s.2.1 149))) + s.1)) ((s.2.2 147) s.1))])))
theorem dh_entry_98 (w : wX) (c : Nat → Option am_C) (N D : Nat) (v1 : Int) (q1 : R32 v1) (bb : Nat) (Q2 : Sum (Int × mR) (mR) → ag_Re af_T → Prop) (H1 : ∀ s j, cs_entry_98 s → PP bb w D pm_311 (hd_entry_98 c N v1 s j) (Q2 (.inl s))) (H2 : ∀ x j, cx_entry_98 x → PP bb w D pm_311 (ex_entry_98 c N v1 x j) (Q2 (.inr x))) (s : Int × mR) (j : Nat → Int) (hs : cs_entry_98 s) : PP (bb + 1) w D pm_311 (hd_entry_98 c N v1 s j) (QS Q2 (rfb_entry_98 v1 s)) := by
  obtain ⟨g5, gm⟩ := hs
  unfold rfb_entry_98
  show PP (bb + 1) w D pm_311 (98, [(0, .ref 189), (1, .int (i32 v1)), (2, .int (i32 (j 2))), (3, .int (i32 (j 3))), (4, .int (i32 (j 4))), (5, .int (i32 s.1))], [], (mhp (mO s.2 [] []) c, N), 0, 0) _
  refine P1_ld 100 (.int (i32 s.1)) rfl (fun _ => rfl) ?_
  refine P_ld 101 (.int (i32 4)) rfl (fun _ => rfl) ?_
  refine P_icF 173 104 rfl rfl rfl g5 (l32 4 rfl) rfl (fun h6 => ?_) (fun h6 => ?_)
  · skip
    refine P_some ?_
    exact H2 s.2 (jk [(2, j 2), (3, j 3), (4, j 4), (5, s.1)]) gm
  · skip
    refine P_gf 108 (.ref 309) rfl rfl rfl rfl rfl rfl ?_
    refine P_ld 109 (.int (i32 4)) rfl (fun _ => rfl) ?_
    refine P_gf 113 (.int (i32 (s.2.1 149))) rfl rfl rfl rfl rfl rfl ?_
    refine P_op 114 (cut (4 * (s.2.1 149))) _ rfl (fun _ => rfl) o_mul ?_
    refine P_ld 116 (.int (i32 s.1)) rfl (fun _ => rfl) ?_
    refine P_op 117 (cut ((cut (4 * (s.2.1 149))) + s.1)) _ rfl (fun _ => rfl) o_add ?_
    refine P_gf 121 (.ref 299) rfl rfl rfl rfl rfl rfl ?_
    refine P_ld 123 (.int (i32 s.1)) rfl (fun _ => rfl) ?_
    refine P_lald2 124 145 (s.2.2 145) rfl rfl rfl g5 rfl ?_
    refine P_last2 (a' := [(160, upI (s.2.2 160) (cut ((cut (4 * (s.2.1 149))) + s.1)) ((s.2.2 145) s.1))]) 125 160 (s.2.2 160) rfl rfl rfl cut_r rfl rfl ?_
    refine P_gf 129 (.ref 310) rfl rfl rfl rfl rfl rfl ?_
    refine P_ld 130 (.int (i32 4)) rfl (fun _ => rfl) ?_
    refine P_gf 134 (.int (i32 (s.2.1 149))) rfl rfl rfl rfl rfl rfl ?_
    refine P_op 135 (cut (4 * (s.2.1 149))) _ rfl (fun _ => rfl) o_mul ?_
    refine P_ld 137 (.int (i32 s.1)) rfl (fun _ => rfl) ?_
    refine P_op 138 (cut ((cut (4 * (s.2.1 149))) + s.1)) _ rfl (fun _ => rfl) o_add ?_
    refine P_gf 142 (.ref 300) rfl rfl rfl rfl rfl rfl ?_
    refine P_ld 144 (.int (i32 s.1)) rfl (fun _ => rfl) ?_
    refine P_lald2 145 146 (s.2.2 146) rfl rfl rfl g5 rfl ?_
    refine P_last2 (a' := [(160, upI (s.2.2 160) (cut ((cut (4 * (s.2.1 149))) + s.1)) ((s.2.2 145) s.1)), (161, upI (s.2.2 161) (cut ((cut (4 * (s.2.1 149))) + s.1)) ((s.2.2 146) s.1))]) 146 161 (s.2.2 161) rfl rfl rfl cut_r rfl rfl ?_
    refine P_gf 150 (.ref 311) rfl rfl rfl rfl rfl rfl ?_
    refine P_ld 151 (.int (i32 4)) rfl (fun _ => rfl) ?_
    refine P_gf 155 (.int (i32 (s.2.1 149))) rfl rfl rfl rfl rfl rfl ?_
    refine P_op 156 (cut (4 * (s.2.1 149))) _ rfl (fun _ => rfl) o_mul ?_
    refine P_ld 158 (.int (i32 s.1)) rfl (fun _ => rfl) ?_
    refine P_op 159 (cut ((cut (4 * (s.2.1 149))) + s.1)) _ rfl (fun _ => rfl) o_add ?_
    refine P_gf 163 (.ref 301) rfl rfl rfl rfl rfl rfl ?_
    refine P_ld 165 (.int (i32 s.1)) rfl (fun _ => rfl) ?_
    refine P_lald2 166 147 (s.2.2 147) rfl rfl rfl g5 rfl ?_
    refine P_last2 (a' := [(160, upI (s.2.2 160) (cut ((cut (4 * (s.2.1 149))) + s.1)) ((s.2.2 145) s.1)), (161, upI (s.2.2 161) (cut ((cut (4 * (s.2.1 149))) + s.1)) ((s.2.2 146) s.1)), (162, upI (s.2.2 162) (cut ((cut (4 * (s.2.1 149))) + s.1)) ((s.2.2 147) s.1))]) 167 162 (s.2.2 162) rfl rfl rfl cut_r rfl rfl ?_
    refine P_inc 170 [(5, .int (i32 (cut (s.1 + 1)))), (0, .ref 189), (1, .int (i32 v1)), (2, .int (i32 (j 2))), (3, .int (i32 (j 3))), (4, .int (i32 (j 4)))] rfl rfl (by decide) rfl rfl ?_
    refine P_goto 98 rfl (fun _ => rfl) ?_
    refine P_some ?_
    refine P_lv (b := [(0, .ref 189), (1, .int (i32 v1)), (2, .int (i32 (j 2))), (3, .int (i32 (j 3))), (4, .int (i32 (j 4))), (5, .int (i32 (cut (s.1 + 1))))]) rfl rfl ⟨rfl, rfl, rfl, rfl, rfl, rfl, trivial⟩ ?_
    exact H1 (cut (s.1 + 1), (mO s.2 [] [(160, upI (s.2.2 160) (cut ((cut (4 * (s.2.1 149))) + s.1)) ((s.2.2 145) s.1)), (161, upI (s.2.2 161) (cut ((cut (4 * (s.2.1 149))) + s.1)) ((s.2.2 146) s.1)), (162, upI (s.2.2 162) (cut ((cut (4 * (s.2.1 149))) + s.1)) ((s.2.2 147) s.1))])) (jk [(2, j 2), (3, j 3), (4, j 4)]) ⟨cut_r, (Cn_mO gm trivial ⟨(rE_ul (Cn_a gm 160) rfl (rE_l (Cn_a gm 145) rfl _)), (rE_ul (Cn_a gm 161) rfl (rE_l (Cn_a gm 146) rfl _)), (rE_ul (Cn_a gm 162) rfl (rE_l (Cn_a gm 147) rfl _)), trivial⟩)⟩
def rfl_entry_52 (v1 : Int) (v2 : Int) (v3 : Int) (v4 : Int) (u1 : Int) (m : mR) : Option (Int × mR) :=
  if u1 ≤ 0 then
    bnd (whl (rfb_entry_98 v1) (0, (mO m [(1, u1)] [(156, upI (m.2 156) (m.1 149) v2), (157, upI (m.2 157) (m.1 149) v3), (158, upI (m.2 158) (m.1 149) v4)]))) (fun e8 : mR =>
      rfl_entry_173 v1 e8)
  else
    some (0, (mO m [(1, u1)] []))
theorem dg_entry_52 (w : wX) (c : Nat → Option am_C) (N D : Nat) (bb : Nat) (v1 : Int) (v2 : Int) (v3 : Int) (v4 : Int) (u1 : Int) (q1 : R32 v1) (q2 : R32 v2) (q3 : R32 v3) (q4 : R32 v4) (r1 : R32 u1) (m : mR) (hm : Cn m) (j : Nat → Int) : PP bb w D pm_311 (52, [(0, .ref 189), (1, .int (i32 v1)), (2, .int (i32 v2)), (3, .int (i32 v3)), (4, .int (i32 v4))], [.int (i32 u1), .ref 189], (mhp m c, N), 0, 0) (QS (FR1 c N) (rfl_entry_52 v1 v2 v3 v4 u1 m)) := by
  unfold rfl_entry_52
  show PP bb w D pm_311 (52, [(0, .ref 189), (1, .int (i32 v1)), (2, .int (i32 v2)), (3, .int (i32 v3)), (4, .int (i32 v4))], [.int (i32 u1), .ref 189], (mhp (mO m [] []) c, N), 0, 0) _
  refine P_pf (l' := [(1, u1)]) 55 u1 rfl rfl rfl rfl rfl rfl ?_
  refine P_gf 59 (.int (i32 u1)) rfl rfl rfl rfl rfl rfl ?_
  refine P_ifF 64 62 rfl rfl rfl r1 rfl (fun h7 => ?_) (fun h7 => ?_)
  · skip
    refine P_gf 68 (.ref 305) rfl rfl rfl rfl rfl rfl ?_
    refine P_gf 72 (.int (i32 (m.1 149))) rfl rfl rfl rfl rfl rfl ?_
    refine P_ld 73 (.int (i32 v2)) rfl (fun _ => rfl) ?_
    refine P_iast2 (a' := [(156, upI (m.2 156) (m.1 149) v2)]) 74 156 (m.2 156) rfl rfl rfl (Cn_i hm 149 rfl) rfl rfl ?_
    refine P_gf 78 (.ref 306) rfl rfl rfl rfl rfl rfl ?_
    refine P_gf 82 (.int (i32 (m.1 149))) rfl rfl rfl rfl rfl rfl ?_
    refine P_ld 83 (.int (i32 v3)) rfl (fun _ => rfl) ?_
    refine P_iast2 (a' := [(156, upI (m.2 156) (m.1 149) v2), (157, upI (m.2 157) (m.1 149) v3)]) 84 157 (m.2 157) rfl rfl rfl (Cn_i hm 149 rfl) rfl rfl ?_
    refine P_gf 88 (.ref 307) rfl rfl rfl rfl rfl rfl ?_
    refine P_gf 92 (.int (i32 (m.1 149))) rfl rfl rfl rfl rfl rfl ?_
    refine P_ld 94 (.int (i32 v4)) rfl (fun _ => rfl) ?_
    refine P_iast2 (a' := [(156, upI (m.2 156) (m.1 149) v2), (157, upI (m.2 157) (m.1 149) v3), (158, upI (m.2 158) (m.1 149) v4)]) 95 158 (m.2 158) rfl rfl rfl (Cn_i hm 149 rfl) rfl rfl ?_
    refine P_ld 96 (.int (i32 0)) rfl (fun _ => rfl) ?_
    refine P_sto 98 [(5, .int (i32 0)), (0, .ref 189), (1, .int (i32 v1)), (2, .int (i32 v2)), (3, .int (i32 v3)), (4, .int (i32 v4))] rfl (fun _ => rfl) ?_
    refine P_lv (b := [(0, .ref 189), (1, .int (i32 v1)), (2, .int (i32 v2)), (3, .int (i32 v3)), (4, .int (i32 v4)), (5, .int (i32 0))]) rfl rfl ⟨rfl, rfl, rfl, rfl, rfl, rfl, trivial⟩ ?_
    refine P_bnd ?_
    refine P_whl (fun bb Q2 H1 H2 s9 j9 hs9 => dh_entry_98 w c N D v1 q1 bb Q2 H1 H2 s9 j9 hs9) bb (fun e8 j q9 => ?_) (0, (mO m [(1, u1)] [(156, upI (m.2 156) (m.1 149) v2), (157, upI (m.2 157) (m.1 149) v3), (158, upI (m.2 158) (m.1 149) v4)])) (jk [(2, v2), (3, v3), (4, v4)]) ⟨(l32 0 rfl), (Cn_mO hm ⟨(rV_i rfl r1), trivial⟩ ⟨(rE_ui (Cn_a hm 156) rfl q2), (rE_ui (Cn_a hm 157) rfl q3), (rE_ui (Cn_a hm 158) rfl q4), trivial⟩)⟩
    have q10 := q9
    show PP bb w D pm_311 (173, [(0, .ref 189), (1, .int (i32 v1)), (2, .int (i32 (j 2))), (3, .int (i32 (j 3))), (4, .int (i32 (j 4))), (5, .int (i32 (j 5)))], [], (mhp (mO e8 [] []) c, N), 0, 0) (QS _ (rfl_entry_173 v1 e8))
    exact dg_entry_173 w c N D bb v1 q1 e8 q10 (jk [(2, j 2), (3, j 3), (4, j 4), (5, j 5)])
  · skip
    refine P_ld 63 (.int (i32 0)) rfl (fun _ => rfl) ?_
    exact P_re1 rfl (l32 0 rfl) (Cn_mO hm ⟨(rV_i rfl r1), trivial⟩ trivial)
def rfl_entry_47 (v1 : Int) (v2 : Int) (v3 : Int) (v4 : Int) (m : mR) : Option (Int × mR) :=
  rfl_entry_52 v1 v2 v3 v4 2 m
theorem dg_entry_47 (w : wX) (c : Nat → Option am_C) (N D : Nat) (bb : Nat) (v1 : Int) (v2 : Int) (v3 : Int) (v4 : Int) (q1 : R32 v1) (q2 : R32 v2) (q3 : R32 v3) (q4 : R32 v4) (m : mR) (hm : Cn m) (j : Nat → Int) : PP bb w D pm_311 (47, [(0, .ref 189), (1, .int (i32 v1)), (2, .int (i32 v2)), (3, .int (i32 v3)), (4, .int (i32 v4))], [.ref 189], (mhp m c, N), 0, 0) (QS (FR1 c N) (rfl_entry_47 v1 v2 v3 v4 m)) := by
  unfold rfl_entry_47
  show PP bb w D pm_311 (47, [(0, .ref 189), (1, .int (i32 v1)), (2, .int (i32 v2)), (3, .int (i32 v3)), (4, .int (i32 v4))], [.ref 189], (mhp (mO m [] []) c, N), 0, 0) _
  refine P_ld 48 (.int (i32 2)) rfl (fun _ => rfl) ?_
  refine P_goto 52 rfl (fun _ => rfl) ?_
  exact dg_entry_52 w c N D bb v1 v2 v3 v4 2 q1 q2 q3 q4 (l32 2 rfl) m hm (jk [])
def rfl_entry_27 (v1 : Int) (v2 : Int) (v3 : Int) (v4 : Int) (m : mR) : Option (Int × mR) :=
  rfl_entry_52 v1 v2 v3 v4 1 m
theorem dg_entry_27 (w : wX) (c : Nat → Option am_C) (N D : Nat) (bb : Nat) (v1 : Int) (v2 : Int) (v3 : Int) (v4 : Int) (q1 : R32 v1) (q2 : R32 v2) (q3 : R32 v3) (q4 : R32 v4) (m : mR) (hm : Cn m) (j : Nat → Int) : PP bb w D pm_311 (27, [(0, .ref 189), (1, .int (i32 v1)), (2, .int (i32 v2)), (3, .int (i32 v3)), (4, .int (i32 v4))], [.ref 189], (mhp m c, N), 0, 0) (QS (FR1 c N) (rfl_entry_27 v1 v2 v3 v4 m)) := by
  unfold rfl_entry_27
  show PP bb w D pm_311 (27, [(0, .ref 189), (1, .int (i32 v1)), (2, .int (i32 v2)), (3, .int (i32 v3)), (4, .int (i32 v4))], [.ref 189], (mhp (mO m [] []) c, N), 0, 0) _
  refine P_ld 28 (.int (i32 1)) rfl (fun _ => rfl) ?_
  refine P_goto 52 rfl (fun _ => rfl) ?_
  exact dg_entry_52 w c N D bb v1 v2 v3 v4 1 q1 q2 q3 q4 (l32 1 rfl) m hm (jk [])
def rf_entry (v1 : Int) (v2 : Int) (v3 : Int) (v4 : Int) (m : mR) : Option (Int × mR) :=
  bnd (rf_in v1 3) fun y11 =>
  if y11 = 0 then
    rfl_entry_27 v1 v2 v3 v4 m
  else
    if m.1 127 = 0 then
      rfl_entry_27 v1 v2 v3 v4 m
    else
      bnd (rf_in v2 (m.1 26)) fun y15 =>
      if y15 = 0 then
        rfl_entry_27 v1 v2 v3 v4 m
      else
        if m.1 128 = 0 then
          rfl_entry_47 v1 v2 v3 v4 m
        else
          if m.1 149 = 40 then
            rfl_entry_47 v1 v2 v3 v4 m
          else
            rfl_entry_52 v1 v2 v3 v4 0 m
theorem D_entry (w : wX) (m : mR) (c : Nat → Option am_C) (N D : Nat) (hm : Cn m) (v1 : Int) (v2 : Int) (v3 : Int) (v4 : Int) (q1 : R32 v1) (q2 : R32 v2) (q3 : R32 v3) (q4 : R32 v4) : PC w D 311 [.ref 189, .int (i32 v1), .int (i32 v2), .int (i32 v3), .int (i32 v4)] (mhp m c, N) (QS (FR1 c N) (rf_entry v1 v2 v3 v4 m)) := by
  refine Pc_of (fun D bb => ?_) D
  unfold rf_entry
  show PP bb w D pm_311 (0, [(0, .ref 189), (1, .int (i32 v1)), (2, .int (i32 v2)), (3, .int (i32 v3)), (4, .int (i32 v4))], [], (mhp (mO m [] []) c, N), 0, 0) _
  refine P_ld 1 (.ref 189) rfl (fun _ => rfl) ?_
  refine P_ld 2 (.int (i32 v1)) rfl (fun _ => rfl) ?_
  refine P_ld 3 (.int (i32 3)) rfl (fun _ => rfl) ?_
  refine P_cp1 6 305 [.int (i32 v1), .int (i32 3)] [.ref 189] rfl (fun _ => rfl) rfl (D_in w _ D v1 3 q1 (l32 3 rfl)) (fun y11 h12 => ?_)
  refine P_ifF 27 9 rfl rfl rfl h12 rfl (fun h13 => ?_) (fun h13 => ?_)
  · skip
    exact dg_entry_27 w c N D bb v1 v2 v3 v4 q1 q2 q3 q4 m hm (jk [])
  · skip
    refine P_gf 13 (.int (i32 (m.1 127))) rfl rfl rfl rfl rfl rfl ?_
    refine P_ifF 27 16 rfl rfl rfl (Cn_i hm 127 rfl) rfl (fun h14 => ?_) (fun h14 => ?_)
    · skip
      exact dg_entry_27 w c N D bb v1 v2 v3 v4 q1 q2 q3 q4 m hm (jk [])
    · skip
      refine P_ld 17 (.int (i32 v2)) rfl (fun _ => rfl) ?_
      refine P_gf 21 (.int (i32 (m.1 26))) rfl rfl rfl rfl rfl rfl ?_
      refine P_cp1 24 305 [.int (i32 v2), .int (i32 (m.1 26))] [.ref 189] rfl (fun _ => rfl) rfl (D_in w _ D v2 (m.1 26) q2 (Cn_i hm 26 rfl)) (fun y15 h16 => ?_)
      refine P_ifE 31 27 rfl rfl rfl h16 rfl (fun h17 => ?_) (fun h17 => ?_)
      · skip
        exact dg_entry_27 w c N D bb v1 v2 v3 v4 q1 q2 q3 q4 m hm (jk [])
      · skip
        refine P_gf 35 (.int (i32 (m.1 128))) rfl rfl rfl rfl rfl rfl ?_
        refine P_ifF 47 38 rfl rfl rfl (Cn_i hm 128 rfl) rfl (fun h18 => ?_) (fun h18 => ?_)
        · skip
          exact dg_entry_47 w c N D bb v1 v2 v3 v4 q1 q2 q3 q4 m hm (jk [])
        · skip
          refine P_gf 42 (.int (i32 (m.1 149))) rfl rfl rfl rfl rfl rfl ?_
          refine P_ld 44 (.int (i32 40)) rfl (fun _ => rfl) ?_
          refine P_icE 51 47 rfl rfl rfl (Cn_i hm 149 rfl) (l32 40 rfl) rfl (fun h19 => ?_) (fun h19 => ?_)
          · skip
            exact dg_entry_47 w c N D bb v1 v2 v3 v4 q1 q2 q3 q4 m hm (jk [])
          · skip
            refine P_ld 52 (.int (i32 0)) rfl (fun _ => rfl) ?_
            exact dg_entry_52 w c N D bb v1 v2 v3 v4 0 q1 q2 q3 q4 (l32 0 rfl) m hm (jk [])
def rfl_cut_17 (u0 : Int) : Option Int :=
  some u0
theorem dg_cut_17 (w : wX) (t : af_T) (D : Nat) (bb : Nat) (u0 : Int) (r0 : R64 u0) (j : Nat → Int) : PP bb w D pm_315 (17, [(0, .long (i64 (j 0))), (2, .int (i32 (j 2)))], [.long (i64 u0)], t, 0, 0) (QS (FP2 t) (rfl_cut_17 u0)) := by
  unfold rfl_cut_17
  exact P_rp2 rfl rfl r0
def rf_cut (v0 : Int) (v2 : Int) : Option Int :=
  if v2 = 64 then
    rfl_cut_17 v0
  else
    rfl_cut_17 (and64 v0 (cutl ((shl64 1 v2) - 1)))
theorem D_cut (w : wX) (t : af_T) (D : Nat) (v0 : Int) (v2 : Int) (q0 : R64 v0) (q2 : R32 v2) : PC w D 315 [.long (i64 v0), .int (i32 v2)] t (QS (FP2 t) (rf_cut v0 v2)) := by
  refine Pc_of (fun D bb => ?_) D
  unfold rf_cut
  show PP bb w D pm_315 (0, [(0, .long (i64 v0)), (2, .int (i32 v2))], [], t, 0, 0) _
  refine P_ld 1 (.int (i32 v2)) rfl (fun _ => rfl) ?_
  refine P_ld 3 (.int (i32 64)) rfl (fun _ => rfl) ?_
  refine P_icE 10 6 rfl rfl rfl q2 (l32 64 rfl) rfl (fun h1 => ?_) (fun h1 => ?_)
  · skip
    refine P_ld 7 (.long (i64 v0)) rfl (fun _ => rfl) ?_
    refine P_goto 17 rfl (fun _ => rfl) ?_
    exact dg_cut_17 w t D bb v0 q0 (jk [(0, v0), (2, v2)])
  · skip
    refine P_ld 11 (.long (i64 v0)) rfl (fun _ => rfl) ?_
    refine P_ld 12 (.long (i64 1)) rfl (fun _ => rfl) ?_
    refine P_ld 13 (.int (i32 v2)) rfl (fun _ => rfl) ?_
    refine P_opl 14 (shl64 1 v2) _ rfl (fun _ => rfl) (Int64.ofInt_toInt _).symm ?_
    refine P_ld 15 (.long (i64 1)) rfl (fun _ => rfl) ?_
    refine P_opl 16 (cutl ((shl64 1 v2) - 1)) _ rfl (fun _ => rfl) p_sub ?_
    refine P_opl 17 (and64 v0 (cutl ((shl64 1 v2) - 1))) _ rfl (fun _ => rfl) (Int64.ofInt_toInt _).symm ?_
    exact dg_cut_17 w t D bb (and64 v0 (cutl ((shl64 1 v2) - 1))) t64_r (jk [(0, v0), (2, v2)])
def cs_areMasks_4 (s : Int × Int) : Prop := R32 s.1 ∧ R32 s.2
def cx_areMasks_4 : (Int) → Prop := (fun (e : Int) => R32 e)
def hd_areMasks_4 (c : Nat → Option am_C) (N : Nat) (v1 : Int) (m : mR) (s : Int × Int) (j : Nat → Int) : ag_St af_T := (4, [(0, .ref 189), (1, .int (i32 v1)), (2, .int (i32 s.1)), (3, .int (i32 s.2)), (4, .int (i32 (j 4))), (5, .long (i64 (j 5))), (7, .int (i32 (j 7)))], [], (mhp m c, N), 0, 0)
def ex_areMasks_4 (c : Nat → Option am_C) (N : Nat) (v1 : Int) (m : mR) : (Int) → (Nat → Int) → ag_St af_T := (fun (e : Int) (j : Nat → Int) => ((114, [(0, .ref 189), (1, .int (i32 (j 1))), (2, .int (i32 e)), (3, .int (i32 (j 3))), (4, .int (i32 (j 4))), (5, .long (i64 (j 5))), (7, .int (i32 (j 7)))], [], (mhp m c, N), 0, 0) : ag_St af_T))
def rfl_areMasks_107 (v1 : Int) (v3 : Int) (u0 : Int) (m : mR) : Option (Sum (Int × Int) (Int)) :=
  some (.inl (u0, cut (v3 + 1)))
theorem dg_areMasks_107 (w : wX) (c : Nat → Option am_C) (N D : Nat) (bb : Nat) (v1 : Int) (v3 : Int) (u0 : Int) (q1 : R32 v1) (q3 : R32 v3) (r0 : R32 u0) (m : mR) (hm : Cn m) (j : Nat → Int) (Q2 : Sum (Int × Int) (Int) → ag_Re af_T → Prop) (H1 : ∀ s j, cs_areMasks_4 s → PP bb w D pm_314 (hd_areMasks_4 c N v1 m s j) (Q2 (.inl s))) (H2 : ∀ x j, cx_areMasks_4 x → PP bb w D pm_314 (ex_areMasks_4 c N v1 m x j) (Q2 (.inr x))) : PP bb w D pm_314 (107, [(0, .ref 189), (1, .int (i32 v1)), (2, .int (i32 (j 2))), (3, .int (i32 v3)), (4, .int (i32 (j 4))), (5, .long (i64 (j 5))), (7, .int (i32 (j 7)))], [.int (i32 u0)], (mhp m c, N), 0, 0) (QS Q2 (rfl_areMasks_107 v1 v3 u0 m)) := by
  unfold rfl_areMasks_107
  show PP bb w D pm_314 (107, [(0, .ref 189), (1, .int (i32 v1)), (2, .int (i32 (j 2))), (3, .int (i32 v3)), (4, .int (i32 (j 4))), (5, .long (i64 (j 5))), (7, .int (i32 (j 7)))], [.int (i32 u0)], (mhp (mO m [] []) c, N), 0, 0) _
  refine P_sto 108 [(2, .int (i32 u0)), (0, .ref 189), (1, .int (i32 v1)), (3, .int (i32 v3)), (4, .int (i32 (j 4))), (5, .long (i64 (j 5))), (7, .int (i32 (j 7)))] rfl (fun _ => rfl) ?_
  refine P_inc 111 [(3, .int (i32 (cut (v3 + 1)))), (2, .int (i32 u0)), (0, .ref 189), (1, .int (i32 v1)), (4, .int (i32 (j 4))), (5, .long (i64 (j 5))), (7, .int (i32 (j 7)))] rfl rfl (by decide) rfl rfl ?_
  refine P_goto 4 rfl (fun _ => rfl) ?_
  refine P_some ?_
  refine P_lv (b := [(0, .ref 189), (1, .int (i32 v1)), (2, .int (i32 u0)), (3, .int (i32 (cut (v3 + 1)))), (4, .int (i32 (j 4))), (5, .long (i64 (j 5))), (7, .int (i32 (j 7)))]) rfl rfl ⟨rfl, rfl, rfl, rfl, rfl, rfl, rfl, trivial⟩ ?_
  exact H1 (u0, cut (v3 + 1)) (jk [(4, j 4), (5, j 5), (7, j 7)]) ⟨r0, cut_r⟩
def rfl_areMasks_106 (v1 : Int) (v3 : Int) (m : mR) : Option (Sum (Int × Int) (Int)) :=
  rfl_areMasks_107 v1 v3 0 m
theorem dg_areMasks_106 (w : wX) (c : Nat → Option am_C) (N D : Nat) (bb : Nat) (v1 : Int) (v3 : Int) (q1 : R32 v1) (q3 : R32 v3) (m : mR) (hm : Cn m) (j : Nat → Int) (Q2 : Sum (Int × Int) (Int) → ag_Re af_T → Prop) (H1 : ∀ s j, cs_areMasks_4 s → PP bb w D pm_314 (hd_areMasks_4 c N v1 m s j) (Q2 (.inl s))) (H2 : ∀ x j, cx_areMasks_4 x → PP bb w D pm_314 (ex_areMasks_4 c N v1 m x j) (Q2 (.inr x))) : PP bb w D pm_314 (106, [(0, .ref 189), (1, .int (i32 v1)), (2, .int (i32 (j 2))), (3, .int (i32 v3)), (4, .int (i32 (j 4))), (5, .long (i64 (j 5))), (7, .int (i32 (j 7)))], [], (mhp m c, N), 0, 0) (QS Q2 (rfl_areMasks_106 v1 v3 m)) := by
  unfold rfl_areMasks_106
  show PP bb w D pm_314 (106, [(0, .ref 189), (1, .int (i32 v1)), (2, .int (i32 (j 2))), (3, .int (i32 v3)), (4, .int (i32 (j 4))), (5, .long (i64 (j 5))), (7, .int (i32 (j 7)))], [], (mhp (mO m [] []) c, N), 0, 0) _
  refine P_ld 107 (.int (i32 0)) rfl (fun _ => rfl) ?_
  exact dg_areMasks_107 w c N D bb v1 v3 0 q1 q3 (l32 0 rfl) m hm (jk [(2, j 2), (4, j 4), (5, j 5), (7, j 7)]) Q2 H1 H2
def rfl_areMasks_102 (v1 : Int) (v3 : Int) (m : mR) : Option (Sum (Int × Int) (Int)) :=
  rfl_areMasks_107 v1 v3 1 m
theorem dg_areMasks_102 (w : wX) (c : Nat → Option am_C) (N D : Nat) (bb : Nat) (v1 : Int) (v3 : Int) (q1 : R32 v1) (q3 : R32 v3) (m : mR) (hm : Cn m) (j : Nat → Int) (Q2 : Sum (Int × Int) (Int) → ag_Re af_T → Prop) (H1 : ∀ s j, cs_areMasks_4 s → PP bb w D pm_314 (hd_areMasks_4 c N v1 m s j) (Q2 (.inl s))) (H2 : ∀ x j, cx_areMasks_4 x → PP bb w D pm_314 (ex_areMasks_4 c N v1 m x j) (Q2 (.inr x))) : PP bb w D pm_314 (102, [(0, .ref 189), (1, .int (i32 v1)), (2, .int (i32 (j 2))), (3, .int (i32 v3)), (4, .int (i32 (j 4))), (5, .long (i64 (j 5))), (7, .int (i32 (j 7)))], [], (mhp m c, N), 0, 0) (QS Q2 (rfl_areMasks_102 v1 v3 m)) := by
  unfold rfl_areMasks_102
  show PP bb w D pm_314 (102, [(0, .ref 189), (1, .int (i32 v1)), (2, .int (i32 (j 2))), (3, .int (i32 v3)), (4, .int (i32 (j 4))), (5, .long (i64 (j 5))), (7, .int (i32 (j 7)))], [], (mhp (mO m [] []) c, N), 0, 0) _
  refine P_ld 103 (.int (i32 1)) rfl (fun _ => rfl) ?_
  refine P_goto 107 rfl (fun _ => rfl) ?_
  exact dg_areMasks_107 w c N D bb v1 v3 1 q1 q3 (l32 1 rfl) m hm (jk [(2, j 2), (4, j 4), (5, j 5), (7, j 7)]) Q2 H1 H2
def rfl_areMasks_82 (v1 : Int) (v3 : Int) (v5 : Int) (v7 : Int) (m : mR) : Option (Sum (Int × Int) (Int)) :=
  if v7 = 313 then
    if cmp64 (and64 v5 (cutl (v5 + 1))) 0 = 0 then
      rfl_areMasks_102 v1 v3 m
    else
      rfl_areMasks_106 v1 v3 m
  else
    rfl_areMasks_106 v1 v3 m
theorem dg_areMasks_82 (w : wX) (c : Nat → Option am_C) (N D : Nat) (bb : Nat) (v1 : Int) (v3 : Int) (v5 : Int) (v7 : Int) (q1 : R32 v1) (q3 : R32 v3) (q5 : R64 v5) (q7 : R32 v7) (m : mR) (hm : Cn m) (j : Nat → Int) (Q2 : Sum (Int × Int) (Int) → ag_Re af_T → Prop) (H1 : ∀ s j, cs_areMasks_4 s → PP bb w D pm_314 (hd_areMasks_4 c N v1 m s j) (Q2 (.inl s))) (H2 : ∀ x j, cx_areMasks_4 x → PP bb w D pm_314 (ex_areMasks_4 c N v1 m x j) (Q2 (.inr x))) : PP bb w D pm_314 (82, [(0, .ref 189), (1, .int (i32 v1)), (2, .int (i32 (j 2))), (3, .int (i32 v3)), (4, .int (i32 (j 4))), (5, .long (i64 v5)), (7, .int (i32 v7))], [], (mhp m c, N), 0, 0) (QS Q2 (rfl_areMasks_82 v1 v3 v5 v7 m)) := by
  unfold rfl_areMasks_82
  show PP bb w D pm_314 (82, [(0, .ref 189), (1, .int (i32 v1)), (2, .int (i32 (j 2))), (3, .int (i32 v3)), (4, .int (i32 (j 4))), (5, .long (i64 v5)), (7, .int (i32 v7))], [], (mhp (mO m [] []) c, N), 0, 0) _
  refine P_ld 84 (.int (i32 v7)) rfl (fun _ => rfl) ?_
  refine P_ld 87 (.int (i32 313)) rfl (fun _ => rfl) ?_
  refine P_icE 106 90 rfl rfl rfl q7 (l32 313 rfl) rfl (fun h2 => ?_) (fun h2 => ?_)
  · skip
    refine P_ld 92 (.long (i64 v5)) rfl (fun _ => rfl) ?_
    refine P_ld 94 (.long (i64 v5)) rfl (fun _ => rfl) ?_
    refine P_ld 95 (.long (i64 1)) rfl (fun _ => rfl) ?_
    refine P_opl 96 (cutl (v5 + 1)) _ rfl (fun _ => rfl) p_add ?_
    refine P_opl 97 (and64 v5 (cutl (v5 + 1))) _ rfl (fun _ => rfl) (Int64.ofInt_toInt _).symm ?_
    refine P_ld 98 (.long (i64 0)) rfl (fun _ => rfl) ?_
    refine P_op 99 (cmp64 (and64 v5 (cutl (v5 + 1))) 0) _ rfl (fun _ => rfl) (o_cmp t64_r (l64 0 rfl)) ?_
    refine P_ifE 106 102 rfl rfl rfl cmp64_r rfl (fun h3 => ?_) (fun h3 => ?_)
    · skip
      exact dg_areMasks_102 w c N D bb v1 v3 q1 q3 m hm (jk [(2, j 2), (4, j 4), (5, v5), (7, v7)]) Q2 H1 H2
    · skip
      exact dg_areMasks_106 w c N D bb v1 v3 q1 q3 m hm (jk [(2, j 2), (4, j 4), (5, v5), (7, v7)]) Q2 H1 H2
  · skip
    exact dg_areMasks_106 w c N D bb v1 v3 q1 q3 m hm (jk [(2, j 2), (4, j 4), (5, v5), (7, v7)]) Q2 H1 H2
def rfb_areMasks_4 (v1 : Int) (m : mR) (s : Int × Int) : Option (Sum (Int × Int) (Int)) :=
  if (m.2 51) v1 ≤ s.2 then
    some (.inr s.1)
  else
    bnd (rf_cut (xor64 ((m.2 161) s.2) (-1)) ((m.2 112) (cut ((cut (4 * v1)) + s.2)))) fun y6 =>
    if s.1 = 0 then
      rfl_areMasks_106 v1 s.2 m
    else
      if (m.2 113) (cut ((cut (4 * v1)) + s.2)) = 314 then
        rfl_areMasks_102 v1 s.2 m
      else
        if (m.2 113) (cut ((cut (4 * v1)) + s.2)) = 312 then
          if cmp64 y6 0 = 0 then
            rfl_areMasks_102 v1 s.2 m
          else
            rfl_areMasks_82 v1 s.2 y6 ((m.2 113) (cut ((cut (4 * v1)) + s.2))) m
        else
          rfl_areMasks_82 v1 s.2 y6 ((m.2 113) (cut ((cut (4 * v1)) + s.2))) m
theorem dh_areMasks_4 (w : wX) (c : Nat → Option am_C) (N D : Nat) (v1 : Int) (q1 : R32 v1) (m : mR) (hm : Cn m) (bb : Nat) (Q2 : Sum (Int × Int) (Int) → ag_Re af_T → Prop) (H1 : ∀ s j, cs_areMasks_4 s → PP bb w D pm_314 (hd_areMasks_4 c N v1 m s j) (Q2 (.inl s))) (H2 : ∀ x j, cx_areMasks_4 x → PP bb w D pm_314 (ex_areMasks_4 c N v1 m x j) (Q2 (.inr x))) (s : Int × Int) (j : Nat → Int) (hs : cs_areMasks_4 s) : PP (bb + 1) w D pm_314 (hd_areMasks_4 c N v1 m s j) (QS Q2 (rfb_areMasks_4 v1 m s)) := by
  obtain ⟨g2, g3⟩ := hs
  unfold rfb_areMasks_4
  show PP (bb + 1) w D pm_314 (4, [(0, .ref 189), (1, .int (i32 v1)), (2, .int (i32 s.1)), (3, .int (i32 s.2)), (4, .int (i32 (j 4))), (5, .long (i64 (j 5))), (7, .int (i32 (j 7)))], [], (mhp (mO m [] []) c, N), 0, 0) _
  refine P1_ld 5 (.int (i32 s.2)) rfl (fun _ => rfl) ?_
  refine P_gf 9 (.ref 221) rfl rfl rfl rfl rfl rfl ?_
  refine P_ld 10 (.int (i32 v1)) rfl (fun _ => rfl) ?_
  refine P_iald2 11 51 (m.2 51) rfl rfl rfl q1 rfl ?_
  refine P_icF 114 14 rfl rfl rfl g3 (rE_i (Cn_a hm 51) rfl _) rfl (fun h5 => ?_) (fun h5 => ?_)
  · skip
    refine P_some ?_
    exact H2 s.1 (jk [(1, v1), (3, s.2), (4, j 4), (5, j 5), (7, j 7)]) g2
  · skip
    refine P_gf 18 (.ref 272) rfl rfl rfl rfl rfl rfl ?_
    refine P_ld 19 (.int (i32 4)) rfl (fun _ => rfl) ?_
    refine P_ld 20 (.int (i32 v1)) rfl (fun _ => rfl) ?_
    refine P_op 21 (cut (4 * v1)) _ rfl (fun _ => rfl) o_mul ?_
    refine P_ld 22 (.int (i32 s.2)) rfl (fun _ => rfl) ?_
    refine P_op 23 (cut ((cut (4 * v1)) + s.2)) _ rfl (fun _ => rfl) o_add ?_
    refine P_iald2 24 112 (m.2 112) rfl rfl rfl cut_r rfl ?_
    refine P_sto 26 [(4, .int (i32 ((m.2 112) (cut ((cut (4 * v1)) + s.2))))), (0, .ref 189), (1, .int (i32 v1)), (2, .int (i32 s.1)), (3, .int (i32 s.2)), (5, .long (i64 (j 5))), (7, .int (i32 (j 7)))] rfl (fun _ => rfl) ?_
    refine P_gf 30 (.ref 310) rfl rfl rfl rfl rfl rfl ?_
    refine P_ld 31 (.int (i32 s.2)) rfl (fun _ => rfl) ?_
    refine P_lald2 32 161 (m.2 161) rfl rfl rfl g3 rfl ?_
    refine P_ld 35 (.long (i64 (-1))) rfl (fun _ => rfl) ?_
    refine P_opl 36 (xor64 ((m.2 161) s.2) (-1)) _ rfl (fun _ => rfl) (Int64.ofInt_toInt _).symm ?_
    refine P_ld 38 (.int (i32 ((m.2 112) (cut ((cut (4 * v1)) + s.2))))) rfl (fun _ => rfl) ?_
    refine P_cp2 41 315 [.long (i64 (xor64 ((m.2 161) s.2) (-1))), .int (i32 ((m.2 112) (cut ((cut (4 * v1)) + s.2))))] [] rfl (fun _ => rfl) rfl (D_cut w _ D (xor64 ((m.2 161) s.2) (-1)) ((m.2 112) (cut ((cut (4 * v1)) + s.2))) t64_r (rE_i (Cn_a hm 112) rfl _)) (fun y6 h7 => ?_)
    refine P_sto 43 [(5, .long (i64 y6)), (4, .int (i32 ((m.2 112) (cut ((cut (4 * v1)) + s.2))))), (0, .ref 189), (1, .int (i32 v1)), (2, .int (i32 s.1)), (3, .int (i32 s.2)), (7, .int (i32 (j 7)))] rfl (fun _ => rfl) ?_
    refine P_gf 47 (.ref 273) rfl rfl rfl rfl rfl rfl ?_
    refine P_ld 48 (.int (i32 4)) rfl (fun _ => rfl) ?_
    refine P_ld 49 (.int (i32 v1)) rfl (fun _ => rfl) ?_
    refine P_op 50 (cut (4 * v1)) _ rfl (fun _ => rfl) o_mul ?_
    refine P_ld 51 (.int (i32 s.2)) rfl (fun _ => rfl) ?_
    refine P_op 52 (cut ((cut (4 * v1)) + s.2)) _ rfl (fun _ => rfl) o_add ?_
    refine P_iald2 53 113 (m.2 113) rfl rfl rfl cut_r rfl ?_
    refine P_sto 55 [(7, .int (i32 ((m.2 113) (cut ((cut (4 * v1)) + s.2))))), (5, .long (i64 y6)), (4, .int (i32 ((m.2 112) (cut ((cut (4 * v1)) + s.2))))), (0, .ref 189), (1, .int (i32 v1)), (2, .int (i32 s.1)), (3, .int (i32 s.2))] rfl (fun _ => rfl) ?_
    refine P_ld 56 (.int (i32 s.1)) rfl (fun _ => rfl) ?_
    refine P_ifF 106 59 rfl rfl rfl g2 rfl (fun h8 => ?_) (fun h8 => ?_)
    · skip
      refine P_lv (b := [(0, .ref 189), (1, .int (i32 v1)), (2, .int (i32 s.1)), (3, .int (i32 s.2)), (4, .int (i32 ((m.2 112) (cut ((cut (4 * v1)) + s.2))))), (5, .long (i64 y6)), (7, .int (i32 ((m.2 113) (cut ((cut (4 * v1)) + s.2)))))]) rfl rfl ⟨rfl, rfl, rfl, rfl, rfl, rfl, rfl, trivial⟩ ?_
      exact dg_areMasks_106 w c N D bb v1 s.2 q1 g3 m hm (jk [(2, s.1), (4, (m.2 112) (cut ((cut (4 * v1)) + s.2))), (5, y6), (7, (m.2 113) (cut ((cut (4 * v1)) + s.2)))]) Q2 H1 H2
    · skip
      refine P_ld 61 (.int (i32 ((m.2 113) (cut ((cut (4 * v1)) + s.2))))) rfl (fun _ => rfl) ?_
      refine P_ld 64 (.int (i32 314)) rfl (fun _ => rfl) ?_
      refine P_icF 102 67 rfl rfl rfl (rE_i (Cn_a hm 113) rfl _) (l32 314 rfl) rfl (fun h9 => ?_) (fun h9 => ?_)
      · skip
        refine P_lv (b := [(0, .ref 189), (1, .int (i32 v1)), (2, .int (i32 s.1)), (3, .int (i32 s.2)), (4, .int (i32 ((m.2 112) (cut ((cut (4 * v1)) + s.2))))), (5, .long (i64 y6)), (7, .int (i32 ((m.2 113) (cut ((cut (4 * v1)) + s.2)))))]) rfl rfl ⟨rfl, rfl, rfl, rfl, rfl, rfl, rfl, trivial⟩ ?_
        exact dg_areMasks_102 w c N D bb v1 s.2 q1 g3 m hm (jk [(2, s.1), (4, (m.2 112) (cut ((cut (4 * v1)) + s.2))), (5, y6), (7, (m.2 113) (cut ((cut (4 * v1)) + s.2)))]) Q2 H1 H2
      · skip
        refine P_ld 69 (.int (i32 ((m.2 113) (cut ((cut (4 * v1)) + s.2))))) rfl (fun _ => rfl) ?_
        refine P_ld 72 (.int (i32 312)) rfl (fun _ => rfl) ?_
        refine P_icE 82 75 rfl rfl rfl (rE_i (Cn_a hm 113) rfl _) (l32 312 rfl) rfl (fun h10 => ?_) (fun h10 => ?_)
        · skip
          refine P_ld 77 (.long (i64 y6)) rfl (fun _ => rfl) ?_
          refine P_ld 78 (.long (i64 0)) rfl (fun _ => rfl) ?_
          refine P_op 79 (cmp64 y6 0) _ rfl (fun _ => rfl) (o_cmp h7 (l64 0 rfl)) ?_
          refine P_ifF 102 82 rfl rfl rfl cmp64_r rfl (fun h11 => ?_) (fun h11 => ?_)
          · skip
            refine P_lv (b := [(0, .ref 189), (1, .int (i32 v1)), (2, .int (i32 s.1)), (3, .int (i32 s.2)), (4, .int (i32 ((m.2 112) (cut ((cut (4 * v1)) + s.2))))), (5, .long (i64 y6)), (7, .int (i32 ((m.2 113) (cut ((cut (4 * v1)) + s.2)))))]) rfl rfl ⟨rfl, rfl, rfl, rfl, rfl, rfl, rfl, trivial⟩ ?_
            exact dg_areMasks_102 w c N D bb v1 s.2 q1 g3 m hm (jk [(2, s.1), (4, (m.2 112) (cut ((cut (4 * v1)) + s.2))), (5, y6), (7, (m.2 113) (cut ((cut (4 * v1)) + s.2)))]) Q2 H1 H2
          · skip
            refine P_lv (b := [(0, .ref 189), (1, .int (i32 v1)), (2, .int (i32 s.1)), (3, .int (i32 s.2)), (4, .int (i32 ((m.2 112) (cut ((cut (4 * v1)) + s.2))))), (5, .long (i64 y6)), (7, .int (i32 ((m.2 113) (cut ((cut (4 * v1)) + s.2)))))]) rfl rfl ⟨rfl, rfl, rfl, rfl, rfl, rfl, rfl, trivial⟩ ?_
            exact dg_areMasks_82 w c N D bb v1 s.2 y6 ((m.2 113) (cut ((cut (4 * v1)) + s.2))) q1 g3 h7 (rE_i (Cn_a hm 113) rfl _) m hm (jk [(2, s.1), (4, (m.2 112) (cut ((cut (4 * v1)) + s.2)))]) Q2 H1 H2
        · skip
          refine P_lv (b := [(0, .ref 189), (1, .int (i32 v1)), (2, .int (i32 s.1)), (3, .int (i32 s.2)), (4, .int (i32 ((m.2 112) (cut ((cut (4 * v1)) + s.2))))), (5, .long (i64 y6)), (7, .int (i32 ((m.2 113) (cut ((cut (4 * v1)) + s.2)))))]) rfl rfl ⟨rfl, rfl, rfl, rfl, rfl, rfl, rfl, trivial⟩ ?_
          exact dg_areMasks_82 w c N D bb v1 s.2 y6 ((m.2 113) (cut ((cut (4 * v1)) + s.2))) q1 g3 h7 (rE_i (Cn_a hm 113) rfl _) m hm (jk [(2, s.1), (4, (m.2 112) (cut ((cut (4 * v1)) + s.2)))]) Q2 H1 H2
def rf_areMasks (v1 : Int) (m : mR) : Option Int :=
  bnd (whl (rfb_areMasks_4 v1 m) (1, 0)) (fun e12 : Int =>
    some e12)
theorem D_areMasks (w : wX) (m : mR) (c : Nat → Option am_C) (N D : Nat) (hm : Cn m) (v1 : Int) (q1 : R32 v1) : PC w D 314 [.ref 189, .int (i32 v1)] (mhp m c, N) (QS (FP1 (mhp m c, N)) (rf_areMasks v1 m)) := by
  refine Pc_of (fun D bb => ?_) D
  unfold rf_areMasks
  show PP bb w D pm_314 (0, [(0, .ref 189), (1, .int (i32 v1))], [], (mhp (mO m [] []) c, N), 0, 0) _
  refine P_ld 1 (.int (i32 1)) rfl (fun _ => rfl) ?_
  refine P_sto 2 [(2, .int (i32 1)), (0, .ref 189), (1, .int (i32 v1))] rfl (fun _ => rfl) ?_
  refine P_ld 3 (.int (i32 0)) rfl (fun _ => rfl) ?_
  refine P_sto 4 [(3, .int (i32 0)), (2, .int (i32 1)), (0, .ref 189), (1, .int (i32 v1))] rfl (fun _ => rfl) ?_
  refine P_lv (b := [(0, .ref 189), (1, .int (i32 v1)), (2, .int (i32 1)), (3, .int (i32 0)), (4, .int (i32 0)), (5, .long (i64 0)), (7, .int (i32 0))]) rfl rfl ⟨rfl, rfl, rfl, rfl, trivial⟩ ?_
  refine P_bnd ?_
  refine P_whl (fun bb Q2 H1 H2 s9 j9 hs9 => dh_areMasks_4 w c N D v1 q1 m hm bb Q2 H1 H2 s9 j9 hs9) bb (fun e12 j q13 => ?_) (1, 0) (jk []) ⟨(l32 1 rfl), (l32 0 rfl)⟩
  have q14 := q13
  show PP bb w D pm_314 (114, [(0, .ref 189), (1, .int (i32 (j 1))), (2, .int (i32 e12)), (3, .int (i32 (j 3))), (4, .int (i32 (j 4))), (5, .long (i64 (j 5))), (7, .int (i32 (j 7)))], [], (mhp (mO m [] []) c, N), 0, 0) (QS _ (some e12))
  refine P_ld 115 (.int (i32 e12)) rfl (fun _ => rfl) ?_
  exact P_rp1 rfl q14
def cs_isOf_8 (s : Int × Int) : Prop := R32 s.1 ∧ R32 s.2
def cx_isOf_8 : (Int) → Prop := (fun (e : Int) => R32 e)
def hd_isOf_8 (c : Nat → Option am_C) (N : Nat) (v1 : Int) (v2 : Int) (m : mR) (s : Int × Int) (j : Nat → Int) : ag_St af_T := (8, [(0, .ref 189), (1, .int (i32 v1)), (2, .int (i32 v2)), (3, .int (i32 s.1)), (4, .int (i32 s.2))], [], (mhp m c, N), 0, 0)
def ex_isOf_8 (c : Nat → Option am_C) (N : Nat) (v1 : Int) (v2 : Int) (m : mR) : (Int) → (Nat → Int) → ag_St af_T := (fun (e : Int) (j : Nat → Int) => ((51, [(0, .ref 189), (1, .int (i32 (j 1))), (2, .int (i32 (j 2))), (3, .int (i32 e)), (4, .int (i32 (j 4)))], [], (mhp m c, N), 0, 0) : ag_St af_T))
def rfl_isOf_44 (v1 : Int) (v2 : Int) (v4 : Int) (u0 : Int) (m : mR) : Option (Sum (Int × Int) (Int)) :=
  some (.inl (u0, cut (v4 + 1)))
theorem dg_isOf_44 (w : wX) (c : Nat → Option am_C) (N D : Nat) (bb : Nat) (v1 : Int) (v2 : Int) (v4 : Int) (u0 : Int) (q1 : R32 v1) (q2 : R32 v2) (q4 : R32 v4) (r0 : R32 u0) (m : mR) (hm : Cn m) (j : Nat → Int) (Q2 : Sum (Int × Int) (Int) → ag_Re af_T → Prop) (H1 : ∀ s j, cs_isOf_8 s → PP bb w D pm_317 (hd_isOf_8 c N v1 v2 m s j) (Q2 (.inl s))) (H2 : ∀ x j, cx_isOf_8 x → PP bb w D pm_317 (ex_isOf_8 c N v1 v2 m x j) (Q2 (.inr x))) : PP bb w D pm_317 (44, [(0, .ref 189), (1, .int (i32 v1)), (2, .int (i32 v2)), (3, .int (i32 (j 3))), (4, .int (i32 v4))], [.int (i32 u0)], (mhp m c, N), 0, 0) (QS Q2 (rfl_isOf_44 v1 v2 v4 u0 m)) := by
  unfold rfl_isOf_44
  show PP bb w D pm_317 (44, [(0, .ref 189), (1, .int (i32 v1)), (2, .int (i32 v2)), (3, .int (i32 (j 3))), (4, .int (i32 v4))], [.int (i32 u0)], (mhp (mO m [] []) c, N), 0, 0) _
  refine P_sto 45 [(3, .int (i32 u0)), (0, .ref 189), (1, .int (i32 v1)), (2, .int (i32 v2)), (4, .int (i32 v4))] rfl (fun _ => rfl) ?_
  refine P_inc 48 [(4, .int (i32 (cut (v4 + 1)))), (3, .int (i32 u0)), (0, .ref 189), (1, .int (i32 v1)), (2, .int (i32 v2))] rfl rfl (by decide) rfl rfl ?_
  refine P_goto 8 rfl (fun _ => rfl) ?_
  refine P_some ?_
  refine P_lv (b := [(0, .ref 189), (1, .int (i32 v1)), (2, .int (i32 v2)), (3, .int (i32 u0)), (4, .int (i32 (cut (v4 + 1))))]) rfl rfl ⟨rfl, rfl, rfl, rfl, rfl, trivial⟩ ?_
  exact H1 (u0, cut (v4 + 1)) (jk []) ⟨r0, cut_r⟩
def rfl_isOf_39 (v1 : Int) (v2 : Int) (v4 : Int) (m : mR) : Option (Sum (Int × Int) (Int)) :=
  rfl_isOf_44 v1 v2 v4 1 m
theorem dg_isOf_39 (w : wX) (c : Nat → Option am_C) (N D : Nat) (bb : Nat) (v1 : Int) (v2 : Int) (v4 : Int) (q1 : R32 v1) (q2 : R32 v2) (q4 : R32 v4) (m : mR) (hm : Cn m) (j : Nat → Int) (Q2 : Sum (Int × Int) (Int) → ag_Re af_T → Prop) (H1 : ∀ s j, cs_isOf_8 s → PP bb w D pm_317 (hd_isOf_8 c N v1 v2 m s j) (Q2 (.inl s))) (H2 : ∀ x j, cx_isOf_8 x → PP bb w D pm_317 (ex_isOf_8 c N v1 v2 m x j) (Q2 (.inr x))) : PP bb w D pm_317 (39, [(0, .ref 189), (1, .int (i32 v1)), (2, .int (i32 v2)), (3, .int (i32 (j 3))), (4, .int (i32 v4))], [], (mhp m c, N), 0, 0) (QS Q2 (rfl_isOf_39 v1 v2 v4 m)) := by
  unfold rfl_isOf_39
  show PP bb w D pm_317 (39, [(0, .ref 189), (1, .int (i32 v1)), (2, .int (i32 v2)), (3, .int (i32 (j 3))), (4, .int (i32 v4))], [], (mhp (mO m [] []) c, N), 0, 0) _
  refine P_ld 40 (.int (i32 1)) rfl (fun _ => rfl) ?_
  refine P_goto 44 rfl (fun _ => rfl) ?_
  exact dg_isOf_44 w c N D bb v1 v2 v4 1 q1 q2 q4 (l32 1 rfl) m hm (jk [(3, j 3)]) Q2 H1 H2
def rfb_isOf_8 (v1 : Int) (v2 : Int) (m : mR) (s : Int × Int) : Option (Sum (Int × Int) (Int)) :=
  if cut ((cut (8 * v1)) + ((m.2 53) v1)) ≤ s.2 then
    some (.inr s.1)
  else
    if s.1 = 0 then
      if (m.2 114) s.2 = v2 then
        rfl_isOf_39 v1 v2 s.2 m
      else
        rfl_isOf_44 v1 v2 s.2 0 m
    else
      rfl_isOf_39 v1 v2 s.2 m
theorem dh_isOf_8 (w : wX) (c : Nat → Option am_C) (N D : Nat) (v1 : Int) (v2 : Int) (q1 : R32 v1) (q2 : R32 v2) (m : mR) (hm : Cn m) (bb : Nat) (Q2 : Sum (Int × Int) (Int) → ag_Re af_T → Prop) (H1 : ∀ s j, cs_isOf_8 s → PP bb w D pm_317 (hd_isOf_8 c N v1 v2 m s j) (Q2 (.inl s))) (H2 : ∀ x j, cx_isOf_8 x → PP bb w D pm_317 (ex_isOf_8 c N v1 v2 m x j) (Q2 (.inr x))) (s : Int × Int) (j : Nat → Int) (hs : cs_isOf_8 s) : PP (bb + 1) w D pm_317 (hd_isOf_8 c N v1 v2 m s j) (QS Q2 (rfb_isOf_8 v1 v2 m s)) := by
  obtain ⟨g3, g4⟩ := hs
  unfold rfb_isOf_8
  show PP (bb + 1) w D pm_317 (8, [(0, .ref 189), (1, .int (i32 v1)), (2, .int (i32 v2)), (3, .int (i32 s.1)), (4, .int (i32 s.2))], [], (mhp (mO m [] []) c, N), 0, 0) _
  refine P1_ld 10 (.int (i32 s.2)) rfl (fun _ => rfl) ?_
  refine P_ld 12 (.int (i32 8)) rfl (fun _ => rfl) ?_
  refine P_ld 13 (.int (i32 v1)) rfl (fun _ => rfl) ?_
  refine P_op 14 (cut (8 * v1)) _ rfl (fun _ => rfl) o_mul ?_
  refine P_gf 18 (.ref 223) rfl rfl rfl rfl rfl rfl ?_
  refine P_ld 19 (.int (i32 v1)) rfl (fun _ => rfl) ?_
  refine P_iald2 20 53 (m.2 53) rfl rfl rfl q1 rfl ?_
  refine P_op 21 (cut ((cut (8 * v1)) + ((m.2 53) v1))) _ rfl (fun _ => rfl) o_add ?_
  refine P_icF 51 24 rfl rfl rfl g4 cut_r rfl (fun h3 => ?_) (fun h3 => ?_)
  · skip
    refine P_some ?_
    exact H2 s.1 (jk [(1, v1), (2, v2), (4, s.2)]) g3
  · skip
    refine P_ld 25 (.int (i32 s.1)) rfl (fun _ => rfl) ?_
    refine P_ifE 39 28 rfl rfl rfl g3 rfl (fun h4 => ?_) (fun h4 => ?_)
    · skip
      refine P_gf 32 (.ref 274) rfl rfl rfl rfl rfl rfl ?_
      refine P_ld 34 (.int (i32 s.2)) rfl (fun _ => rfl) ?_
      refine P_iald2 35 114 (m.2 114) rfl rfl rfl g4 rfl ?_
      refine P_ld 36 (.int (i32 v2)) rfl (fun _ => rfl) ?_
      refine P_icE 43 39 rfl rfl rfl (rE_i (Cn_a hm 114) rfl _) q2 rfl (fun h5 => ?_) (fun h5 => ?_)
      · skip
        exact dg_isOf_39 w c N D bb v1 v2 s.2 q1 q2 g4 m hm (jk [(3, s.1)]) Q2 H1 H2
      · skip
        refine P_ld 44 (.int (i32 0)) rfl (fun _ => rfl) ?_
        exact dg_isOf_44 w c N D bb v1 v2 s.2 0 q1 q2 g4 (l32 0 rfl) m hm (jk [(3, s.1)]) Q2 H1 H2
    · skip
      exact dg_isOf_39 w c N D bb v1 v2 s.2 q1 q2 g4 m hm (jk [(3, s.1)]) Q2 H1 H2
def rf_isOf (v1 : Int) (v2 : Int) (m : mR) : Option Int :=
  bnd (whl (rfb_isOf_8 v1 v2 m) (0, cut (8 * v1))) (fun e6 : Int =>
    some e6)
theorem D_isOf (w : wX) (m : mR) (c : Nat → Option am_C) (N D : Nat) (hm : Cn m) (v1 : Int) (v2 : Int) (q1 : R32 v1) (q2 : R32 v2) : PC w D 317 [.ref 189, .int (i32 v1), .int (i32 v2)] (mhp m c, N) (QS (FP1 (mhp m c, N)) (rf_isOf v1 v2 m)) := by
  refine Pc_of (fun D bb => ?_) D
  unfold rf_isOf
  show PP bb w D pm_317 (0, [(0, .ref 189), (1, .int (i32 v1)), (2, .int (i32 v2))], [], (mhp (mO m [] []) c, N), 0, 0) _
  refine P_ld 1 (.int (i32 0)) rfl (fun _ => rfl) ?_
  refine P_sto 2 [(3, .int (i32 0)), (0, .ref 189), (1, .int (i32 v1)), (2, .int (i32 v2))] rfl (fun _ => rfl) ?_
  refine P_ld 4 (.int (i32 8)) rfl (fun _ => rfl) ?_
  refine P_ld 5 (.int (i32 v1)) rfl (fun _ => rfl) ?_
  refine P_op 6 (cut (8 * v1)) _ rfl (fun _ => rfl) o_mul ?_
  refine P_sto 8 [(4, .int (i32 (cut (8 * v1)))), (3, .int (i32 0)), (0, .ref 189), (1, .int (i32 v1)), (2, .int (i32 v2))] rfl (fun _ => rfl) ?_
  refine P_lv (b := [(0, .ref 189), (1, .int (i32 v1)), (2, .int (i32 v2)), (3, .int (i32 0)), (4, .int (i32 (cut (8 * v1))))]) rfl rfl ⟨rfl, rfl, rfl, rfl, rfl, trivial⟩ ?_
  refine P_bnd ?_
  refine P_whl (fun bb Q2 H1 H2 s9 j9 hs9 => dh_isOf_8 w c N D v1 v2 q1 q2 m hm bb Q2 H1 H2 s9 j9 hs9) bb (fun e6 j q7 => ?_) (0, cut (8 * v1)) (jk []) ⟨(l32 0 rfl), cut_r⟩
  have q8 := q7
  show PP bb w D pm_317 (51, [(0, .ref 189), (1, .int (i32 (j 1))), (2, .int (i32 (j 2))), (3, .int (i32 e6)), (4, .int (i32 (j 4)))], [], (mhp (mO m [] []) c, N), 0, 0) (QS _ (some e6))
  refine P_ld 52 (.int (i32 e6)) rfl (fun _ => rfl) ?_
  exact P_rp1 rfl q8
def rf_slot (v1 : Int) (v2 : Int) (m : mR) : Option Int :=
  some (cut ((cut (96 * v1)) + v2))
theorem D_slot (w : wX) (m : mR) (c : Nat → Option am_C) (N D : Nat) (hm : Cn m) (v1 : Int) (v2 : Int) (q1 : R32 v1) (q2 : R32 v2) : PC w D 319 [.ref 189, .int (i32 v1), .int (i32 v2)] (mhp m c, N) (QS (FP1 (mhp m c, N)) (rf_slot v1 v2 m)) := by
  refine Pc_of (fun D bb => ?_) D
  unfold rf_slot
  show PP bb w D pm_319 (0, [(0, .ref 189), (1, .int (i32 v1)), (2, .int (i32 v2))], [], (mhp (mO m [] []) c, N), 0, 0) _
  refine P_ld 2 (.int (i32 96)) rfl (fun _ => rfl) ?_
  refine P_ld 3 (.int (i32 v1)) rfl (fun _ => rfl) ?_
  refine P_op 4 (cut (96 * v1)) _ rfl (fun _ => rfl) o_mul ?_
  refine P_ld 5 (.int (i32 v2)) rfl (fun _ => rfl) ?_
  refine P_op 6 (cut ((cut (96 * v1)) + v2)) _ rfl (fun _ => rfl) o_add ?_
  exact P_rp1 rfl cut_r
end X55BA
