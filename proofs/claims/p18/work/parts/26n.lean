noncomputable section X26N
def cs_read_15 (s : Int × mR) : Prop := R32 s.1 ∧ Cn s.2
def cx_read_15 : (mR) → Prop := (fun (e : mR) => Cn e)
def hd_read_15 (c : Nat → Option am_C) (N : Nat) (s : Int × mR) (j : Nat → Int) : ag_St af_T := (15, [(0, .ref 189), (1, .int (i32 s.1))], [], (mhp s.2 c, N), 0, 0)
def ex_read_15 (c : Nat → Option am_C) (N : Nat) : (mR) → (Nat → Int) → ag_St af_T := (fun (e : mR) (j : Nat → Int) => ((41, [(0, .ref 189), (1, .int (i32 (j 1)))], [], (mhp e c, N), 0, 0) : ag_St af_T))
def cs_read_88 (s : Int × mR) : Prop := R32 s.1 ∧ Cn s.2
def cx_read_88 : (mR) → Prop := (fun (e : mR) => Cn e)
def hd_read_88 (c : Nat → Option am_C) (N : Nat) (s : Int × mR) (j : Nat → Int) : ag_St af_T := (88, [(0, .ref 189), (1, .int (i32 s.1))], [], (mhp s.2 c, N), 0, 0)
def ex_read_88 (c : Nat → Option am_C) (N : Nat) : (mR) → (Nat → Int) → ag_St af_T := (fun (e : mR) (j : Nat → Int) => ((107, [(0, .ref 189), (1, .int (i32 (j 1)))], [], (mhp e c, N), 0, 0) : ag_St af_T))
def cs_read_160 (s : mR) : Prop := Cn s
def cx_read_160 : (mR) → Prop := (fun (e : mR) => Cn e)
def hd_read_160 (c : Nat → Option am_C) (N : Nat) (s : mR) (j : Nat → Int) : ag_St af_T := (160, [(0, .ref 189), (1, .int (i32 (j 1)))], [], (mhp s c, N), 0, 0)
def ex_read_160 (c : Nat → Option am_C) (N : Nat) : (mR) → (Nat → Int) → ag_St af_T := (fun (e : mR) (j : Nat → Int) => ((182, [(0, .ref 189), (1, .int (i32 (j 1)))], [], (mhp e c, N), 0, 0) : ag_St af_T))
def rfl_read_266 (u0 : Int) (m : mR) : Option (Int × mR) :=
  some (u0, m)
theorem dg_read_266 (w : wX) (c : Nat → Option am_C) (N D : Nat) (bb : Nat) (u0 : Int) (r0 : R32 u0) (m : mR) (hm : Cn m) (j : Nat → Int) : PP bb w D pm_210 (266, [(0, .ref 189), (1, .int (i32 (j 1)))], [.int (i32 u0)], (mhp m c, N), 0, 0) (QS (FR1 c N) (rfl_read_266 u0 m)) := by
  unfold rfl_read_266
  show PP bb w D pm_210 (266, [(0, .ref 189), (1, .int (i32 (j 1)))], [.int (i32 u0)], (mhp (mO m [] []) c, N), 0, 0) _
  exact P_re1 rfl r0 hm
def rfl_read_248 (u1 : Int) (m : mR) : Option (Int × mR) :=
  if u1 = 0 then
    rfl_read_266 0 (mO m [(127, u1)] [])
  else
    rfl_read_266 (m.1 28) (mO m [(127, u1)] [])
theorem dg_read_248 (w : wX) (c : Nat → Option am_C) (N D : Nat) (bb : Nat) (u1 : Int) (r1 : R32 u1) (m : mR) (hm : Cn m) (j : Nat → Int) : PP bb w D pm_210 (248, [(0, .ref 189), (1, .int (i32 (j 1)))], [.int (i32 u1), .ref 189], (mhp m c, N), 0, 0) (QS (FR1 c N) (rfl_read_248 u1 m)) := by
  unfold rfl_read_248
  show PP bb w D pm_210 (248, [(0, .ref 189), (1, .int (i32 (j 1)))], [.int (i32 u1), .ref 189], (mhp (mO m [] []) c, N), 0, 0) _
  refine P_pz (l' := [(127, u1)]) 251 u1 rfl rfl rfl r1 rfl rfl rfl ?_
  refine P_gf 255 (.int (i32 u1)) rfl rfl rfl rfl rfl rfl ?_
  refine P_ifF 265 258 rfl rfl rfl r1 rfl (fun h4 => ?_) (fun h4 => ?_)
  · skip
    refine P_ld 266 (.int (i32 0)) rfl (fun _ => rfl) ?_
    exact dg_read_266 w c N D bb 0 (l32 0 rfl) (mO m [(127, u1)] []) (Cn_mO hm ⟨(rV_i rfl r1), trivial⟩ trivial) (jk [(1, j 1)])
  · skip
    refine P_gf 262 (.int (i32 (m.1 28))) rfl rfl rfl rfl rfl rfl ?_
    refine P_goto 266 rfl (fun _ => rfl) ?_
    exact dg_read_266 w c N D bb (m.1 28) (Cn_i hm 28 rfl) (mO m [(127, u1)] []) (Cn_mO hm ⟨(rV_i rfl r1), trivial⟩ trivial) (jk [(1, j 1)])
def rfl_read_232 (u1 : Int) (m : mR) : Option (Int × mR) :=
  if m.1 10 = 0 then
    rfl_read_248 1 (mO m [(1, u1)] [])
  else
    rfl_read_248 0 (mO m [(1, u1)] [])
theorem dg_read_232 (w : wX) (c : Nat → Option am_C) (N D : Nat) (bb : Nat) (u1 : Int) (r1 : R32 u1) (m : mR) (hm : Cn m) (j : Nat → Int) : PP bb w D pm_210 (232, [(0, .ref 189), (1, .int (i32 (j 1)))], [.int (i32 u1), .ref 189], (mhp m c, N), 0, 0) (QS (FR1 c N) (rfl_read_232 u1 m)) := by
  unfold rfl_read_232
  show PP bb w D pm_210 (232, [(0, .ref 189), (1, .int (i32 (j 1)))], [.int (i32 u1), .ref 189], (mhp (mO m [] []) c, N), 0, 0) _
  refine P_pf (l' := [(1, u1)]) 235 u1 rfl rfl rfl rfl rfl rfl ?_
  refine P_ld 236 (.ref 189) rfl (fun _ => rfl) ?_
  refine P_gf 240 (.int (i32 (m.1 10))) rfl rfl rfl rfl rfl rfl ?_
  refine P_ifE 247 243 rfl rfl rfl (Cn_i hm 10 rfl) rfl (fun h5 => ?_) (fun h5 => ?_)
  · skip
    refine P_ld 244 (.int (i32 1)) rfl (fun _ => rfl) ?_
    refine P_goto 248 rfl (fun _ => rfl) ?_
    exact dg_read_248 w c N D bb 1 (l32 1 rfl) (mO m [(1, u1)] []) (Cn_mO hm ⟨(rV_i rfl r1), trivial⟩ trivial) (jk [(1, j 1)])
  · skip
    refine P_ld 248 (.int (i32 0)) rfl (fun _ => rfl) ?_
    exact dg_read_248 w c N D bb 0 (l32 0 rfl) (mO m [(1, u1)] []) (Cn_mO hm ⟨(rV_i rfl r1), trivial⟩ trivial) (jk [(1, j 1)])
def rfl_read_219 (m : mR) : Option (Int × mR) :=
  if m.1 10 ≤ 0 then
    rfl_read_232 0 m
  else
    rfl_read_232 1 m
theorem dg_read_219 (w : wX) (c : Nat → Option am_C) (N D : Nat) (bb : Nat) (m : mR) (hm : Cn m) (j : Nat → Int) : PP bb w D pm_210 (219, [(0, .ref 189), (1, .int (i32 (j 1)))], [], (mhp m c, N), 0, 0) (QS (FR1 c N) (rfl_read_219 m)) := by
  unfold rfl_read_219
  show PP bb w D pm_210 (219, [(0, .ref 189), (1, .int (i32 (j 1)))], [], (mhp (mO m [] []) c, N), 0, 0) _
  refine P_ld 220 (.ref 189) rfl (fun _ => rfl) ?_
  refine P_gf 224 (.int (i32 (m.1 10))) rfl rfl rfl rfl rfl rfl ?_
  refine P_ifF 231 227 rfl rfl rfl (Cn_i hm 10 rfl) rfl (fun h6 => ?_) (fun h6 => ?_)
  · skip
    refine P_ld 232 (.int (i32 0)) rfl (fun _ => rfl) ?_
    exact dg_read_232 w c N D bb 0 (l32 0 rfl) m hm (jk [(1, j 1)])
  · skip
    refine P_ld 228 (.int (i32 1)) rfl (fun _ => rfl) ?_
    refine P_goto 232 rfl (fun _ => rfl) ?_
    exact dg_read_232 w c N D bb 1 (l32 1 rfl) m hm (jk [(1, j 1)])
def rfl_read_208 (m : mR) : Option (Int × mR) :=
  if m.1 10 = 0 then
    bnd (rf_checkStates m) fun y8 =>
    rfl_read_219 y8.2
  else
    rfl_read_219 m
theorem dg_read_208 (w : wX) (c : Nat → Option am_C) (N D : Nat) (bb : Nat) (m : mR) (hm : Cn m) (j : Nat → Int) : PP bb w D pm_210 (208, [(0, .ref 189), (1, .int (i32 (j 1)))], [], (mhp m c, N), 0, 0) (QS (FR1 c N) (rfl_read_208 m)) := by
  unfold rfl_read_208
  show PP bb w D pm_210 (208, [(0, .ref 189), (1, .int (i32 (j 1)))], [], (mhp (mO m [] []) c, N), 0, 0) _
  refine P_gf 212 (.int (i32 (m.1 10))) rfl rfl rfl rfl rfl rfl ?_
  refine P_ifE 219 215 rfl rfl rfl (Cn_i hm 10 rfl) rfl (fun h7 => ?_) (fun h7 => ?_)
  · skip
    refine P_ld 216 (.ref 189) rfl (fun _ => rfl) ?_
    refine P_ca0 219 284 [.ref 189] [] rfl (fun _ => rfl) rfl (D_checkStates w m c N D hm) (fun y8 n10 => ?_)
    exact dg_read_219 w c N D bb y8.2 n10 (jk [(1, j 1)])
  · skip
    exact dg_read_219 w c N D bb m hm (jk [(1, j 1)])
def rfl_read_190 (m : mR) : Option (Int × mR) :=
  if m.1 10 = 0 then
    if m.1 7 = 0 then
      rfl_read_208 m
    else
      bnd (rf_bad m) fun y13 =>
      rfl_read_208 y13.2
  else
    rfl_read_208 m
theorem dg_read_190 (w : wX) (c : Nat → Option am_C) (N D : Nat) (bb : Nat) (m : mR) (hm : Cn m) (j : Nat → Int) : PP bb w D pm_210 (190, [(0, .ref 189), (1, .int (i32 (j 1)))], [], (mhp m c, N), 0, 0) (QS (FR1 c N) (rfl_read_190 m)) := by
  unfold rfl_read_190
  show PP bb w D pm_210 (190, [(0, .ref 189), (1, .int (i32 (j 1)))], [], (mhp (mO m [] []) c, N), 0, 0) _
  refine P_gf 194 (.int (i32 (m.1 10))) rfl rfl rfl rfl rfl rfl ?_
  refine P_ifE 208 197 rfl rfl rfl (Cn_i hm 10 rfl) rfl (fun h11 => ?_) (fun h11 => ?_)
  · skip
    refine P_gf 201 (.int (i32 (m.1 7))) rfl rfl rfl rfl rfl rfl ?_
    refine P_ifF 208 204 rfl rfl rfl (Cn_i hm 7 rfl) rfl (fun h12 => ?_) (fun h12 => ?_)
    · skip
      exact dg_read_208 w c N D bb m hm (jk [(1, j 1)])
    · skip
      refine P_ld 205 (.ref 189) rfl (fun _ => rfl) ?_
      refine P_ca0 208 226 [.ref 189] [] rfl (fun _ => rfl) rfl (D_bad w m c N D hm) (fun y13 n15 => ?_)
      exact dg_read_208 w c N D bb y13.2 n15 (jk [(1, j 1)])
  · skip
    exact dg_read_208 w c N D bb m hm (jk [(1, j 1)])
def rfl_read_186 (m : mR) : Option (Int × mR) :=
  bnd (rf_takeEmit m) fun y16 =>
  rfl_read_190 y16.2
theorem dg_read_186 (w : wX) (c : Nat → Option am_C) (N D : Nat) (bb : Nat) (m : mR) (hm : Cn m) (j : Nat → Int) : PP bb w D pm_210 (186, [(0, .ref 189), (1, .int (i32 (j 1)))], [], (mhp m c, N), 0, 0) (QS (FR1 c N) (rfl_read_186 m)) := by
  unfold rfl_read_186
  show PP bb w D pm_210 (186, [(0, .ref 189), (1, .int (i32 (j 1)))], [], (mhp (mO m [] []) c, N), 0, 0) _
  refine P_ld 187 (.ref 189) rfl (fun _ => rfl) ?_
  refine P_ca0 190 283 [.ref 189] [] rfl (fun _ => rfl) rfl (D_takeEmit w m c N D hm) (fun y16 n18 => ?_)
  exact dg_read_190 w c N D bb y16.2 n18 (jk [(1, j 1)])
def rfl_read_182 (m : mR) : Option (Int × mR) :=
  bnd (rf_takeControl m) fun y19 =>
  rfl_read_186 y19.2
theorem dg_read_182 (w : wX) (c : Nat → Option am_C) (N D : Nat) (bb : Nat) (m : mR) (hm : Cn m) (j : Nat → Int) : PP bb w D pm_210 (182, [(0, .ref 189), (1, .int (i32 (j 1)))], [], (mhp m c, N), 0, 0) (QS (FR1 c N) (rfl_read_182 m)) := by
  unfold rfl_read_182
  show PP bb w D pm_210 (182, [(0, .ref 189), (1, .int (i32 (j 1)))], [], (mhp (mO m [] []) c, N), 0, 0) _
  refine P_ld 183 (.ref 189) rfl (fun _ => rfl) ?_
  refine P_ca0 186 279 [.ref 189] [] rfl (fun _ => rfl) rfl (D_takeControl w m c N D hm) (fun y19 n21 => ?_)
  exact dg_read_186 w c N D bb y19.2 n21 (jk [(1, j 1)])
def rfl_read_171 (u0 : Int) (m : mR) : Option (Sum (mR) (mR)) :=
  if u0 = 0 then
    some (.inr m)
  else
    some (.inl (mO m [(64, (-1))] []))
theorem dg_read_171 (w : wX) (c : Nat → Option am_C) (N D : Nat) (bb : Nat) (u0 : Int) (r0 : R32 u0) (m : mR) (hm : Cn m) (j : Nat → Int) (Q2 : Sum (mR) (mR) → ag_Re af_T → Prop) (H1 : ∀ s j, cs_read_160 s → PP bb w D pm_210 (hd_read_160 c N s j) (Q2 (.inl s))) (H2 : ∀ x j, cx_read_160 x → PP bb w D pm_210 (ex_read_160 c N x j) (Q2 (.inr x))) : PP bb w D pm_210 (171, [(0, .ref 189), (1, .int (i32 (j 1)))], [.int (i32 u0)], (mhp m c, N), 0, 0) (QS Q2 (rfl_read_171 u0 m)) := by
  unfold rfl_read_171
  show PP bb w D pm_210 (171, [(0, .ref 189), (1, .int (i32 (j 1)))], [.int (i32 u0)], (mhp (mO m [] []) c, N), 0, 0) _
  refine P_ifF 182 174 rfl rfl rfl r0 rfl (fun h22 => ?_) (fun h22 => ?_)
  · skip
    refine P_some ?_
    exact H2 m (jk [(1, j 1)]) hm
  · skip
    refine P_ld 175 (.ref 189) rfl (fun _ => rfl) ?_
    refine P_ld 176 (.int (i32 (-1))) rfl (fun _ => rfl) ?_
    refine P_pf (l' := [(64, (-1))]) 179 (-1) rfl rfl rfl rfl rfl rfl ?_
    refine P_goto 160 rfl (fun _ => rfl) ?_
    refine P_some ?_
    exact H1 (mO m [(64, (-1))] []) (jk [(1, j 1)]) (Cn_mO hm ⟨(rV_i rfl (l32 (-1) rfl)), trivial⟩ trivial)
def rfb_read_160 (s : mR) : Option (Sum (mR) (mR)) :=
  if s.1 10 = 0 then
    bnd (rf_takeOne s) fun y25 =>
    rfl_read_171 y25.1 y25.2
  else
    some (.inr s)
theorem dh_read_160 (w : wX) (c : Nat → Option am_C) (N D : Nat) (bb : Nat) (Q2 : Sum (mR) (mR) → ag_Re af_T → Prop) (H1 : ∀ s j, cs_read_160 s → PP bb w D pm_210 (hd_read_160 c N s j) (Q2 (.inl s))) (H2 : ∀ x j, cx_read_160 x → PP bb w D pm_210 (ex_read_160 c N x j) (Q2 (.inr x))) (s : mR) (j : Nat → Int) (hs : cs_read_160 s) : PP (bb + 1) w D pm_210 (hd_read_160 c N s j) (QS Q2 (rfb_read_160 s)) := by
  have gm := hs
  unfold rfb_read_160
  show PP (bb + 1) w D pm_210 (160, [(0, .ref 189), (1, .int (i32 (j 1)))], [], (mhp (mO s [] []) c, N), 0, 0) _
  refine P1_ld 161 (.ref 189) rfl (fun _ => rfl) ?_
  refine P_gf1 164 (.int (i32 (s.1 10))) rfl rfl rfl rfl ?_
  refine P_ifE 182 167 rfl rfl rfl (Cn_i gm 10 rfl) rfl (fun h24 => ?_) (fun h24 => ?_)
  · skip
    refine P_ld 168 (.ref 189) rfl (fun _ => rfl) ?_
    refine P_ca1 171 223 [.ref 189] [] rfl (fun _ => rfl) rfl (D_takeOne w s c N D gm) (fun y25 h26 n27 => ?_)
    exact dg_read_171 w c N D bb y25.1 h26 y25.2 n27 (jk [(1, j 1)]) Q2 H1 H2
  · skip
    refine P_some ?_
    exact H2 s (jk [(1, j 1)]) gm
def rfl_read_156 (m : mR) : Option (Int × mR) :=
  bnd (rf_next m) fun y28 =>
  bnd (whl rfb_read_160 y28.2) (fun e31 : mR =>
    rfl_read_182 e31)
theorem dg_read_156 (w : wX) (c : Nat → Option am_C) (N D : Nat) (bb : Nat) (m : mR) (hm : Cn m) (j : Nat → Int) : PP bb w D pm_210 (156, [(0, .ref 189), (1, .int (i32 (j 1)))], [], (mhp m c, N), 0, 0) (QS (FR1 c N) (rfl_read_156 m)) := by
  unfold rfl_read_156
  show PP bb w D pm_210 (156, [(0, .ref 189), (1, .int (i32 (j 1)))], [], (mhp (mO m [] []) c, N), 0, 0) _
  refine P_ld 157 (.ref 189) rfl (fun _ => rfl) ?_
  refine P_ca0 160 212 [.ref 189] [] rfl (fun _ => rfl) rfl (D_next w m c N D hm) (fun y28 n30 => ?_)
  refine P_bnd ?_
  refine P_whl (fun bb Q2 H1 H2 s9 j9 hs9 => dh_read_160 w c N D bb Q2 H1 H2 s9 j9 hs9) bb (fun e31 j q32 => ?_) y28.2 (jk [(1, j 1)]) n30
  have q33 := q32
  show PP bb w D pm_210 (182, [(0, .ref 189), (1, .int (i32 (j 1)))], [], (mhp (mO e31 [] []) c, N), 0, 0) (QS _ (rfl_read_182 e31))
  exact dg_read_182 w c N D bb e31 q33 (jk [(1, j 1)])
def rfl_read_107 (m : mR) : Option (Int × mR) :=
  bnd (rf_begin (mO m [(22, 0), (23, 0), (24, 0), (25, 0), (26, 0), (27, 0), (28, 0), (64, (-1)), (99, 0)] [])) fun y34 =>
  rfl_read_156 y34.2
theorem dg_read_107 (w : wX) (c : Nat → Option am_C) (N D : Nat) (bb : Nat) (m : mR) (hm : Cn m) (j : Nat → Int) : PP bb w D pm_210 (107, [(0, .ref 189), (1, .int (i32 (j 1)))], [], (mhp m c, N), 0, 0) (QS (FR1 c N) (rfl_read_107 m)) := by
  unfold rfl_read_107
  show PP bb w D pm_210 (107, [(0, .ref 189), (1, .int (i32 (j 1)))], [], (mhp (mO m [] []) c, N), 0, 0) _
  refine P_ld 108 (.ref 189) rfl (fun _ => rfl) ?_
  refine P_ld 109 (.int (i32 0)) rfl (fun _ => rfl) ?_
  refine P_pf (l' := [(22, 0)]) 112 0 rfl rfl rfl rfl rfl rfl ?_
  refine P_ld 113 (.ref 189) rfl (fun _ => rfl) ?_
  refine P_ld 114 (.int (i32 0)) rfl (fun _ => rfl) ?_
  refine P_pf (l' := [(22, 0), (23, 0)]) 117 0 rfl rfl rfl rfl rfl rfl ?_
  refine P_ld 118 (.ref 189) rfl (fun _ => rfl) ?_
  refine P_ld 119 (.int (i32 0)) rfl (fun _ => rfl) ?_
  refine P_pf (l' := [(22, 0), (23, 0), (24, 0)]) 122 0 rfl rfl rfl rfl rfl rfl ?_
  refine P_ld 123 (.ref 189) rfl (fun _ => rfl) ?_
  refine P_ld 124 (.int (i32 0)) rfl (fun _ => rfl) ?_
  refine P_pf (l' := [(22, 0), (23, 0), (24, 0), (25, 0)]) 127 0 rfl rfl rfl rfl rfl rfl ?_
  refine P_ld 128 (.ref 189) rfl (fun _ => rfl) ?_
  refine P_ld 129 (.int (i32 0)) rfl (fun _ => rfl) ?_
  refine P_pf (l' := [(22, 0), (23, 0), (24, 0), (25, 0), (26, 0)]) 132 0 rfl rfl rfl rfl rfl rfl ?_
  refine P_ld 133 (.ref 189) rfl (fun _ => rfl) ?_
  refine P_ld 134 (.int (i32 0)) rfl (fun _ => rfl) ?_
  refine P_pf (l' := [(22, 0), (23, 0), (24, 0), (25, 0), (26, 0), (27, 0)]) 137 0 rfl rfl rfl rfl rfl rfl ?_
  refine P_ld 138 (.ref 189) rfl (fun _ => rfl) ?_
  refine P_ld 139 (.int (i32 0)) rfl (fun _ => rfl) ?_
  refine P_pf (l' := [(22, 0), (23, 0), (24, 0), (25, 0), (26, 0), (27, 0), (28, 0)]) 142 0 rfl rfl rfl rfl rfl rfl ?_
  refine P_ld 143 (.ref 189) rfl (fun _ => rfl) ?_
  refine P_ld 144 (.int (i32 0)) rfl (fun _ => rfl) ?_
  refine P_pf (l' := [(22, 0), (23, 0), (24, 0), (25, 0), (26, 0), (27, 0), (28, 0), (99, 0)]) 147 0 rfl rfl rfl rfl rfl rfl ?_
  refine P_ld 148 (.ref 189) rfl (fun _ => rfl) ?_
  refine P_ld 149 (.int (i32 (-1))) rfl (fun _ => rfl) ?_
  refine P_pf (l' := [(22, 0), (23, 0), (24, 0), (25, 0), (26, 0), (27, 0), (28, 0), (64, (-1)), (99, 0)]) 152 (-1) rfl rfl rfl rfl rfl rfl ?_
  refine P_ld 153 (.ref 189) rfl (fun _ => rfl) ?_
  refine P_ca0 156 211 [.ref 189] [] rfl (fun _ => rfl) rfl (D_begin w (mO m [(22, 0), (23, 0), (24, 0), (25, 0), (26, 0), (27, 0), (28, 0), (64, (-1)), (99, 0)] []) c N D (Cn_mO hm ⟨(rV_i rfl (l32 0 rfl)), (rV_i rfl (l32 0 rfl)), (rV_i rfl (l32 0 rfl)), (rV_i rfl (l32 0 rfl)), (rV_i rfl (l32 0 rfl)), (rV_i rfl (l32 0 rfl)), (rV_i rfl (l32 0 rfl)), (rV_i rfl (l32 (-1) rfl)), (rV_i rfl (l32 0 rfl)), trivial⟩ trivial)) (fun y34 n36 => ?_)
  exact dg_read_156 w c N D bb y34.2 n36 (jk [(1, j 1)])
def rfb_read_88 (s : Int × mR) : Option (Sum (Int × mR) (mR)) :=
  if (3 : Int) ≤ s.1 then
    some (.inr s.2)
  else
    some (.inl (cut (s.1 + 1), (mO s.2 [] [(35, upI (s.2.2 35) s.1 16)])))
theorem dh_read_88 (w : wX) (c : Nat → Option am_C) (N D : Nat) (bb : Nat) (Q2 : Sum (Int × mR) (mR) → ag_Re af_T → Prop) (H1 : ∀ s j, cs_read_88 s → PP bb w D pm_210 (hd_read_88 c N s j) (Q2 (.inl s))) (H2 : ∀ x j, cx_read_88 x → PP bb w D pm_210 (ex_read_88 c N x j) (Q2 (.inr x))) (s : Int × mR) (j : Nat → Int) (hs : cs_read_88 s) : PP (bb + 1) w D pm_210 (hd_read_88 c N s j) (QS Q2 (rfb_read_88 s)) := by
  obtain ⟨g1, gm⟩ := hs
  unfold rfb_read_88
  show PP (bb + 1) w D pm_210 (88, [(0, .ref 189), (1, .int (i32 s.1))], [], (mhp (mO s.2 [] []) c, N), 0, 0) _
  refine P1_ld 89 (.int (i32 s.1)) rfl (fun _ => rfl) ?_
  refine P_ld 90 (.int (i32 3)) rfl (fun _ => rfl) ?_
  refine P_icF 107 93 rfl rfl rfl g1 (l32 3 rfl) rfl (fun h38 => ?_) (fun h38 => ?_)
  · skip
    refine P_some ?_
    exact H2 s.2 (jk [(1, s.1)]) gm
  · skip
    refine P_gf 97 (.ref 205) rfl rfl rfl rfl rfl rfl ?_
    refine P_ld 98 (.int (i32 s.1)) rfl (fun _ => rfl) ?_
    refine P_ld 100 (.int (i32 16)) rfl (fun _ => rfl) ?_
    refine P_iast2 (a' := [(35, upI (s.2.2 35) s.1 16)]) 101 35 (s.2.2 35) rfl rfl rfl g1 rfl rfl ?_
    refine P_inc 104 [(1, .int (i32 (cut (s.1 + 1)))), (0, .ref 189)] rfl rfl (by decide) rfl rfl ?_
    refine P_goto 88 rfl (fun _ => rfl) ?_
    refine P_some ?_
    refine P_lv (b := [(0, .ref 189), (1, .int (i32 (cut (s.1 + 1))))]) rfl rfl ⟨rfl, rfl, trivial⟩ ?_
    exact H1 (cut (s.1 + 1), (mO s.2 [] [(35, upI (s.2.2 35) s.1 16)])) (jk []) ⟨cut_r, (Cn_mO gm trivial ⟨(rE_ui (Cn_a gm 35) rfl (l32 16 rfl)), trivial⟩)⟩
def rfl_read_41 (m : mR) : Option (Int × mR) :=
  bnd (whl rfb_read_88 (0, (mO m [(8, 0), (9, 0), (10, 0), (11, (-1)), (13, 0), (19, 0), (20, 0), (21, 3), (127, 0)] []))) (fun e39 : mR =>
    rfl_read_107 e39)
theorem dg_read_41 (w : wX) (c : Nat → Option am_C) (N D : Nat) (bb : Nat) (m : mR) (hm : Cn m) (j : Nat → Int) : PP bb w D pm_210 (41, [(0, .ref 189), (1, .int (i32 (j 1)))], [], (mhp m c, N), 0, 0) (QS (FR1 c N) (rfl_read_41 m)) := by
  unfold rfl_read_41
  show PP bb w D pm_210 (41, [(0, .ref 189), (1, .int (i32 (j 1)))], [], (mhp (mO m [] []) c, N), 0, 0) _
  refine P_ld 42 (.ref 189) rfl (fun _ => rfl) ?_
  refine P_ld 43 (.int (i32 0)) rfl (fun _ => rfl) ?_
  refine P_pf (l' := [(127, 0)]) 46 0 rfl rfl rfl rfl rfl rfl ?_
  refine P_ld 47 (.ref 189) rfl (fun _ => rfl) ?_
  refine P_ld 48 (.int (i32 0)) rfl (fun _ => rfl) ?_
  refine P_pf (l' := [(8, 0), (127, 0)]) 51 0 rfl rfl rfl rfl rfl rfl ?_
  refine P_ld 52 (.ref 189) rfl (fun _ => rfl) ?_
  refine P_ld 53 (.int (i32 0)) rfl (fun _ => rfl) ?_
  refine P_pf (l' := [(8, 0), (9, 0), (127, 0)]) 56 0 rfl rfl rfl rfl rfl rfl ?_
  refine P_ld 57 (.ref 189) rfl (fun _ => rfl) ?_
  refine P_ld 58 (.int (i32 0)) rfl (fun _ => rfl) ?_
  refine P_pf (l' := [(8, 0), (9, 0), (10, 0), (127, 0)]) 61 0 rfl rfl rfl rfl rfl rfl ?_
  refine P_ld 62 (.ref 189) rfl (fun _ => rfl) ?_
  refine P_ld 63 (.int (i32 (-1))) rfl (fun _ => rfl) ?_
  refine P_pf (l' := [(8, 0), (9, 0), (10, 0), (11, (-1)), (127, 0)]) 66 (-1) rfl rfl rfl rfl rfl rfl ?_
  refine P_ld 67 (.ref 189) rfl (fun _ => rfl) ?_
  refine P_ld 68 (.int (i32 0)) rfl (fun _ => rfl) ?_
  refine P_pf (l' := [(8, 0), (9, 0), (10, 0), (11, (-1)), (13, 0), (127, 0)]) 71 0 rfl rfl rfl rfl rfl rfl ?_
  refine P_ld 72 (.ref 189) rfl (fun _ => rfl) ?_
  refine P_ld 73 (.int (i32 0)) rfl (fun _ => rfl) ?_
  refine P_pf (l' := [(8, 0), (9, 0), (10, 0), (11, (-1)), (13, 0), (19, 0), (127, 0)]) 76 0 rfl rfl rfl rfl rfl rfl ?_
  refine P_ld 77 (.ref 189) rfl (fun _ => rfl) ?_
  refine P_ld 78 (.int (i32 0)) rfl (fun _ => rfl) ?_
  refine P_pf (l' := [(8, 0), (9, 0), (10, 0), (11, (-1)), (13, 0), (19, 0), (20, 0), (127, 0)]) 81 0 rfl rfl rfl rfl rfl rfl ?_
  refine P_ld 82 (.ref 189) rfl (fun _ => rfl) ?_
  refine P_ld 83 (.int (i32 3)) rfl (fun _ => rfl) ?_
  refine P_pf (l' := [(8, 0), (9, 0), (10, 0), (11, (-1)), (13, 0), (19, 0), (20, 0), (21, 3), (127, 0)]) 86 3 rfl rfl rfl rfl rfl rfl ?_
  refine P_ld 87 (.int (i32 0)) rfl (fun _ => rfl) ?_
  refine P_sto 88 [(1, .int (i32 0)), (0, .ref 189)] rfl (fun _ => rfl) ?_
  refine P_lv (b := [(0, .ref 189), (1, .int (i32 0))]) rfl rfl ⟨rfl, rfl, trivial⟩ ?_
  refine P_bnd ?_
  refine P_whl (fun bb Q2 H1 H2 s9 j9 hs9 => dh_read_88 w c N D bb Q2 H1 H2 s9 j9 hs9) bb (fun e39 j q40 => ?_) (0, (mO m [(8, 0), (9, 0), (10, 0), (11, (-1)), (13, 0), (19, 0), (20, 0), (21, 3), (127, 0)] [])) (jk []) ⟨(l32 0 rfl), (Cn_mO hm ⟨(rV_i rfl (l32 0 rfl)), (rV_i rfl (l32 0 rfl)), (rV_i rfl (l32 0 rfl)), (rV_i rfl (l32 (-1) rfl)), (rV_i rfl (l32 0 rfl)), (rV_i rfl (l32 0 rfl)), (rV_i rfl (l32 0 rfl)), (rV_i rfl (l32 3 rfl)), (rV_i rfl (l32 0 rfl)), trivial⟩ trivial)⟩
  have q41 := q40
  show PP bb w D pm_210 (107, [(0, .ref 189), (1, .int (i32 (j 1)))], [], (mhp (mO e39 [] []) c, N), 0, 0) (QS _ (rfl_read_107 e39))
  exact dg_read_107 w c N D bb e39 q41 (jk [(1, j 1)])
def rfb_read_15 (s : Int × mR) : Option (Sum (Int × mR) (mR)) :=
  if s.2.1 6 ≤ s.1 then
    some (.inr s.2)
  else
    some (.inl (cut (s.1 + 1), (mO s.2 [] [(4, upI (s.2.2 4) s.1 ((s.2.2 3) s.1))])))
theorem dh_read_15 (w : wX) (c : Nat → Option am_C) (N D : Nat) (bb : Nat) (Q2 : Sum (Int × mR) (mR) → ag_Re af_T → Prop) (H1 : ∀ s j, cs_read_15 s → PP bb w D pm_210 (hd_read_15 c N s j) (Q2 (.inl s))) (H2 : ∀ x j, cx_read_15 x → PP bb w D pm_210 (ex_read_15 c N x j) (Q2 (.inr x))) (s : Int × mR) (j : Nat → Int) (hs : cs_read_15 s) : PP (bb + 1) w D pm_210 (hd_read_15 c N s j) (QS Q2 (rfb_read_15 s)) := by
  obtain ⟨g1, gm⟩ := hs
  unfold rfb_read_15
  show PP (bb + 1) w D pm_210 (15, [(0, .ref 189), (1, .int (i32 s.1))], [], (mhp (mO s.2 [] []) c, N), 0, 0) _
  refine P1_ld 16 (.int (i32 s.1)) rfl (fun _ => rfl) ?_
  refine P_gf 20 (.int (i32 (s.2.1 6))) rfl rfl rfl rfl rfl rfl ?_
  refine P_icF 41 23 rfl rfl rfl g1 (Cn_i gm 6 rfl) rfl (fun h43 => ?_) (fun h43 => ?_)
  · skip
    refine P_some ?_
    exact H2 s.2 (jk [(1, s.1)]) gm
  · skip
    refine P_gf 27 (.ref 193) rfl rfl rfl rfl rfl rfl ?_
    refine P_ld 28 (.int (i32 s.1)) rfl (fun _ => rfl) ?_
    refine P_gf 32 (.ref 192) rfl rfl rfl rfl rfl rfl ?_
    refine P_ld 33 (.int (i32 s.1)) rfl (fun _ => rfl) ?_
    refine P_iald2 34 3 (s.2.2 3) rfl rfl rfl g1 rfl ?_
    refine P_iast2 (a' := [(4, upI (s.2.2 4) s.1 ((s.2.2 3) s.1))]) 35 4 (s.2.2 4) rfl rfl rfl g1 rfl rfl ?_
    refine P_inc 38 [(1, .int (i32 (cut (s.1 + 1)))), (0, .ref 189)] rfl rfl (by decide) rfl rfl ?_
    refine P_goto 15 rfl (fun _ => rfl) ?_
    refine P_some ?_
    refine P_lv (b := [(0, .ref 189), (1, .int (i32 (cut (s.1 + 1))))]) rfl rfl ⟨rfl, rfl, trivial⟩ ?_
    exact H1 (cut (s.1 + 1), (mO s.2 [] [(4, upI (s.2.2 4) s.1 ((s.2.2 3) s.1))])) (jk []) ⟨cut_r, (Cn_mO gm trivial ⟨(rE_ui (Cn_a gm 4) rfl (rE_i (Cn_a gm 3) rfl _)), trivial⟩)⟩
def rf_read (m : mR) : Option (Int × mR) :=
  bnd (whl rfb_read_15 (0, (mO m [(5, 0), (6, m.1 5)] []))) (fun e44 : mR =>
    rfl_read_41 e44)
theorem D_read (w : wX) (m : mR) (c : Nat → Option am_C) (N D : Nat) (hm : Cn m) : PC w D 210 [.ref 189] (mhp m c, N) (QS (FR1 c N) (rf_read m)) := by
  refine Pc_of (fun D bb => ?_) D
  unfold rf_read
  show PP bb w D pm_210 (0, [(0, .ref 189)], [], (mhp (mO m [] []) c, N), 0, 0) _
  refine P_ld 1 (.ref 189) rfl (fun _ => rfl) ?_
  refine P_gf 5 (.int (i32 (m.1 5))) rfl rfl rfl rfl rfl rfl ?_
  refine P_pf (l' := [(6, m.1 5)]) 8 (m.1 5) rfl rfl rfl rfl rfl rfl ?_
  refine P_ld 9 (.ref 189) rfl (fun _ => rfl) ?_
  refine P_ld 10 (.int (i32 0)) rfl (fun _ => rfl) ?_
  refine P_pf (l' := [(5, 0), (6, m.1 5)]) 13 0 rfl rfl rfl rfl rfl rfl ?_
  refine P_ld 14 (.int (i32 0)) rfl (fun _ => rfl) ?_
  refine P_sto 15 [(1, .int (i32 0)), (0, .ref 189)] rfl (fun _ => rfl) ?_
  refine P_lv (b := [(0, .ref 189), (1, .int (i32 0))]) rfl rfl ⟨rfl, rfl, trivial⟩ ?_
  refine P_bnd ?_
  refine P_whl (fun bb Q2 H1 H2 s9 j9 hs9 => dh_read_15 w c N D bb Q2 H1 H2 s9 j9 hs9) bb (fun e44 j q45 => ?_) (0, (mO m [(5, 0), (6, m.1 5)] [])) (jk []) ⟨(l32 0 rfl), (Cn_mO hm ⟨(rV_i rfl (l32 0 rfl)), (rV_i rfl (Cn_i hm 5 rfl)), trivial⟩ trivial)⟩
  have q46 := q45
  show PP bb w D pm_210 (41, [(0, .ref 189), (1, .int (i32 (j 1)))], [], (mhp (mO e44 [] []) c, N), 0, 0) (QS _ (rfl_read_41 e44))
  exact dg_read_41 w c N D bb e44 q46 (jk [(1, j 1)])
def cs_readsCode_3 (s : Int × mR) : Prop := R32 s.1 ∧ Cn s.2
def cx_readsCode_3 : (mR) → Prop := (fun (e : mR) => Cn e)
def hd_readsCode_3 (c : Nat → Option am_C) (N : Nat) (v1 : Int) (v3 : Int) (s : Int × mR) (j : Nat → Int) : ag_St af_T := (3, [(0, .ref 189), (1, .int (i32 v1)), (2, .int (i32 (j 2))), (3, .int (i32 v3)), (4, .int (i32 s.1)), (5, .int (i32 (j 5))), (6, .int (i32 (j 6)))], [], (mhp s.2 c, N), 0, 0)
def ex_readsCode_3 (c : Nat → Option am_C) (N : Nat) (v1 : Int) (v3 : Int) : (mR) → (Nat → Int) → ag_St af_T := (fun (e : mR) (j : Nat → Int) => ((135, [(0, .ref 189), (1, .int (i32 (j 1))), (2, .int (i32 (j 2))), (3, .int (i32 (j 3))), (4, .int (i32 (j 4))), (5, .int (i32 (j 5))), (6, .int (i32 (j 6)))], [], (mhp e c, N), 0, 0) : ag_St af_T))
def rfl_readsCode_129 (v1 : Int) (v3 : Int) (v4 : Int) (m : mR) : Option (Sum (Int × mR) (mR)) :=
  some (.inl (cut (v4 + 1), m))
theorem dg_readsCode_129 (w : wX) (c : Nat → Option am_C) (N D : Nat) (bb : Nat) (v1 : Int) (v3 : Int) (v4 : Int) (q1 : R32 v1) (q3 : R32 v3) (q4 : R32 v4) (m : mR) (hm : Cn m) (j : Nat → Int) (Q2 : Sum (Int × mR) (mR) → ag_Re af_T → Prop) (H1 : ∀ s j, cs_readsCode_3 s → PP bb w D pm_292 (hd_readsCode_3 c N v1 v3 s j) (Q2 (.inl s))) (H2 : ∀ x j, cx_readsCode_3 x → PP bb w D pm_292 (ex_readsCode_3 c N v1 v3 x j) (Q2 (.inr x))) : PP bb w D pm_292 (129, [(0, .ref 189), (1, .int (i32 v1)), (2, .int (i32 (j 2))), (3, .int (i32 v3)), (4, .int (i32 v4)), (5, .int (i32 (j 5))), (6, .int (i32 (j 6)))], [], (mhp m c, N), 0, 0) (QS Q2 (rfl_readsCode_129 v1 v3 v4 m)) := by
  unfold rfl_readsCode_129
  show PP bb w D pm_292 (129, [(0, .ref 189), (1, .int (i32 v1)), (2, .int (i32 (j 2))), (3, .int (i32 v3)), (4, .int (i32 v4)), (5, .int (i32 (j 5))), (6, .int (i32 (j 6)))], [], (mhp (mO m [] []) c, N), 0, 0) _
  refine P_inc 132 [(4, .int (i32 (cut (v4 + 1)))), (0, .ref 189), (1, .int (i32 v1)), (2, .int (i32 (j 2))), (3, .int (i32 v3)), (5, .int (i32 (j 5))), (6, .int (i32 (j 6)))] rfl rfl (by decide) rfl rfl ?_
  refine P_goto 3 rfl (fun _ => rfl) ?_
  refine P_some ?_
  refine P_lv (b := [(0, .ref 189), (1, .int (i32 v1)), (2, .int (i32 (j 2))), (3, .int (i32 v3)), (4, .int (i32 (cut (v4 + 1)))), (5, .int (i32 (j 5))), (6, .int (i32 (j 6)))]) rfl rfl ⟨rfl, rfl, rfl, rfl, rfl, rfl, rfl, trivial⟩ ?_
  exact H1 (cut (v4 + 1), m) (jk [(2, j 2), (5, j 5), (6, j 6)]) ⟨cut_r, hm⟩
def rfb_readsCode_3 (v1 : Int) (v3 : Int) (s : Int × mR) : Option (Sum (Int × mR) (mR)) :=
  if v3 ≤ s.1 then
    some (.inr s.2)
  else
    if (s.2.2 65) s.1 = 401 then
      rfl_readsCode_129 v1 v3 s.1 (mO s.2 [] [(135, upI (upI (s.2.2 135) (cut ((cut (221 * v1)) + ((s.2.2 67) s.1))) (nar1 1)) (cut ((cut ((cut (221 * v1)) + 192)) + (((s.2.2 67) s.1).tdiv 16))) (nar1 1))])
    else
      if (s.2.2 65) s.1 = 404 then
        rfl_readsCode_129 v1 v3 s.1 (mO s.2 [] [(135, upI (s.2.2 135) (cut ((cut ((cut (221 * v1)) + 192)) + ((s.2.2 67) s.1))) (nar1 1))])
      else
        if (s.2.2 65) s.1 = 402 then
          rfl_readsCode_129 v1 v3 s.1 (mO s.2 [] [(135, upI (s.2.2 135) (cut ((cut ((cut (221 * v1)) + 204)) + ((s.2.2 67) s.1))) (nar1 1))])
        else
          rfl_readsCode_129 v1 v3 s.1 s.2
theorem dh_readsCode_3 (w : wX) (c : Nat → Option am_C) (N D : Nat) (v1 : Int) (v3 : Int) (q1 : R32 v1) (q3 : R32 v3) (bb : Nat) (Q2 : Sum (Int × mR) (mR) → ag_Re af_T → Prop) (H1 : ∀ s j, cs_readsCode_3 s → PP bb w D pm_292 (hd_readsCode_3 c N v1 v3 s j) (Q2 (.inl s))) (H2 : ∀ x j, cx_readsCode_3 x → PP bb w D pm_292 (ex_readsCode_3 c N v1 v3 x j) (Q2 (.inr x))) (s : Int × mR) (j : Nat → Int) (hs : cs_readsCode_3 s) : PP (bb + 1) w D pm_292 (hd_readsCode_3 c N v1 v3 s j) (QS Q2 (rfb_readsCode_3 v1 v3 s)) := by
  obtain ⟨g4, gm⟩ := hs
  unfold rfb_readsCode_3
  show PP (bb + 1) w D pm_292 (3, [(0, .ref 189), (1, .int (i32 v1)), (2, .int (i32 (j 2))), (3, .int (i32 v3)), (4, .int (i32 s.1)), (5, .int (i32 (j 5))), (6, .int (i32 (j 6)))], [], (mhp (mO s.2 [] []) c, N), 0, 0) _
  refine P1_ld 5 (.int (i32 s.1)) rfl (fun _ => rfl) ?_
  refine P_ld 6 (.int (i32 v3)) rfl (fun _ => rfl) ?_
  refine P_icF 135 9 rfl rfl rfl g4 q3 rfl (fun h3 => ?_) (fun h3 => ?_)
  · skip
    refine P_some ?_
    exact H2 s.2 (jk [(1, v1), (2, j 2), (3, v3), (4, s.1), (5, j 5), (6, j 6)]) gm
  · skip
    refine P_gf 13 (.ref 236) rfl rfl rfl rfl rfl rfl ?_
    refine P_ld 15 (.int (i32 s.1)) rfl (fun _ => rfl) ?_
    refine P_iald2 16 67 (s.2.2 67) rfl rfl rfl g4 rfl ?_
    refine P_sto 18 [(5, .int (i32 ((s.2.2 67) s.1))), (0, .ref 189), (1, .int (i32 v1)), (2, .int (i32 (j 2))), (3, .int (i32 v3)), (4, .int (i32 s.1)), (6, .int (i32 (j 6)))] rfl (fun _ => rfl) ?_
    refine P_ld 21 (.int (i32 221)) rfl (fun _ => rfl) ?_
    refine P_ld 22 (.int (i32 v1)) rfl (fun _ => rfl) ?_
    refine P_op 23 (cut (221 * v1)) _ rfl (fun _ => rfl) o_mul ?_
    refine P_sto 25 [(6, .int (i32 (cut (221 * v1)))), (5, .int (i32 ((s.2.2 67) s.1))), (0, .ref 189), (1, .int (i32 v1)), (2, .int (i32 (j 2))), (3, .int (i32 v3)), (4, .int (i32 s.1))] rfl (fun _ => rfl) ?_
    refine P_gf 29 (.ref 234) rfl rfl rfl rfl rfl rfl ?_
    refine P_ld 31 (.int (i32 s.1)) rfl (fun _ => rfl) ?_
    refine P_iald2 32 65 (s.2.2 65) rfl rfl rfl g4 rfl ?_
    refine P_ld 35 (.int (i32 401)) rfl (fun _ => rfl) ?_
    refine P_icE 70 38 rfl rfl rfl (rE_i (Cn_a gm 65) rfl _) (l32 401 rfl) rfl (fun h4 => ?_) (fun h4 => ?_)
    · skip
      refine P_gf 42 (.ref 289) rfl rfl rfl rfl rfl rfl ?_
      refine P_ld 44 (.int (i32 (cut (221 * v1)))) rfl (fun _ => rfl) ?_
      refine P_ld 46 (.int (i32 ((s.2.2 67) s.1))) rfl (fun _ => rfl) ?_
      refine P_op 47 (cut ((cut (221 * v1)) + ((s.2.2 67) s.1))) _ rfl (fun _ => rfl) o_add ?_
      refine P_ld 48 (.int (i32 1)) rfl (fun _ => rfl) ?_
      refine P_bast2 (a' := [(135, upI (s.2.2 135) (cut ((cut (221 * v1)) + ((s.2.2 67) s.1))) (nar1 1))]) 49 135 (s.2.2 135) rfl rfl rfl cut_r rfl rfl ?_
      refine P_gf 53 (.ref 289) rfl rfl rfl rfl rfl rfl ?_
      refine P_ld 55 (.int (i32 (cut (221 * v1)))) rfl (fun _ => rfl) ?_
      refine P_ld 58 (.int (i32 192)) rfl (fun _ => rfl) ?_
      refine P_op 59 (cut ((cut (221 * v1)) + 192)) _ rfl (fun _ => rfl) o_add ?_
      refine P_ld 61 (.int (i32 ((s.2.2 67) s.1))) rfl (fun _ => rfl) ?_
      refine P_ld 63 (.int (i32 16)) rfl (fun _ => rfl) ?_
      refine P_div 64 rfl rfl (rE_i (Cn_a gm 67) rfl _) (by decide) (by decide) ?_
      refine P_op 65 (cut ((cut ((cut (221 * v1)) + 192)) + (((s.2.2 67) s.1).tdiv 16))) _ rfl (fun _ => rfl) o_add ?_
      refine P_ld 66 (.int (i32 1)) rfl (fun _ => rfl) ?_
      refine P_bast2 (a' := [(135, upI (upI (s.2.2 135) (cut ((cut (221 * v1)) + ((s.2.2 67) s.1))) (nar1 1)) (cut ((cut ((cut (221 * v1)) + 192)) + (((s.2.2 67) s.1).tdiv 16))) (nar1 1))]) 67 135 (upI (s.2.2 135) (cut ((cut (221 * v1)) + ((s.2.2 67) s.1))) (nar1 1)) rfl rfl rfl cut_r rfl rfl ?_
      refine P_goto 129 rfl (fun _ => rfl) ?_
      refine P_lv (b := [(0, .ref 189), (1, .int (i32 v1)), (2, .int (i32 (j 2))), (3, .int (i32 v3)), (4, .int (i32 s.1)), (5, .int (i32 ((s.2.2 67) s.1))), (6, .int (i32 (cut (221 * v1))))]) rfl rfl ⟨rfl, rfl, rfl, rfl, rfl, rfl, rfl, trivial⟩ ?_
      exact dg_readsCode_129 w c N D bb v1 v3 s.1 q1 q3 g4 (mO s.2 [] [(135, upI (upI (s.2.2 135) (cut ((cut (221 * v1)) + ((s.2.2 67) s.1))) (nar1 1)) (cut ((cut ((cut (221 * v1)) + 192)) + (((s.2.2 67) s.1).tdiv 16))) (nar1 1))]) (Cn_mO gm trivial ⟨(rE_ui (rE_ui (Cn_a gm 135) rfl t32_r) rfl t32_r), trivial⟩) (jk [(2, j 2), (5, (s.2.2 67) s.1), (6, cut (221 * v1))]) Q2 H1 H2
    · skip
      refine P_gf 74 (.ref 234) rfl rfl rfl rfl rfl rfl ?_
      refine P_ld 76 (.int (i32 s.1)) rfl (fun _ => rfl) ?_
      refine P_iald2 77 65 (s.2.2 65) rfl rfl rfl g4 rfl ?_
      refine P_ld 80 (.int (i32 404)) rfl (fun _ => rfl) ?_
      refine P_icE 101 83 rfl rfl rfl (rE_i (Cn_a gm 65) rfl _) (l32 404 rfl) rfl (fun h5 => ?_) (fun h5 => ?_)
      · skip
        refine P_gf 87 (.ref 289) rfl rfl rfl rfl rfl rfl ?_
        refine P_ld 89 (.int (i32 (cut (221 * v1)))) rfl (fun _ => rfl) ?_
        refine P_ld 92 (.int (i32 192)) rfl (fun _ => rfl) ?_
        refine P_op 93 (cut ((cut (221 * v1)) + 192)) _ rfl (fun _ => rfl) o_add ?_
        refine P_ld 95 (.int (i32 ((s.2.2 67) s.1))) rfl (fun _ => rfl) ?_
        refine P_op 96 (cut ((cut ((cut (221 * v1)) + 192)) + ((s.2.2 67) s.1))) _ rfl (fun _ => rfl) o_add ?_
        refine P_ld 97 (.int (i32 1)) rfl (fun _ => rfl) ?_
        refine P_bast2 (a' := [(135, upI (s.2.2 135) (cut ((cut ((cut (221 * v1)) + 192)) + ((s.2.2 67) s.1))) (nar1 1))]) 98 135 (s.2.2 135) rfl rfl rfl cut_r rfl rfl ?_
        refine P_goto 129 rfl (fun _ => rfl) ?_
        refine P_lv (b := [(0, .ref 189), (1, .int (i32 v1)), (2, .int (i32 (j 2))), (3, .int (i32 v3)), (4, .int (i32 s.1)), (5, .int (i32 ((s.2.2 67) s.1))), (6, .int (i32 (cut (221 * v1))))]) rfl rfl ⟨rfl, rfl, rfl, rfl, rfl, rfl, rfl, trivial⟩ ?_
        exact dg_readsCode_129 w c N D bb v1 v3 s.1 q1 q3 g4 (mO s.2 [] [(135, upI (s.2.2 135) (cut ((cut ((cut (221 * v1)) + 192)) + ((s.2.2 67) s.1))) (nar1 1))]) (Cn_mO gm trivial ⟨(rE_ui (Cn_a gm 135) rfl t32_r), trivial⟩) (jk [(2, j 2), (5, (s.2.2 67) s.1), (6, cut (221 * v1))]) Q2 H1 H2
      · skip
        refine P_gf 105 (.ref 234) rfl rfl rfl rfl rfl rfl ?_
        refine P_ld 107 (.int (i32 s.1)) rfl (fun _ => rfl) ?_
        refine P_iald2 108 65 (s.2.2 65) rfl rfl rfl g4 rfl ?_
        refine P_ld 111 (.int (i32 402)) rfl (fun _ => rfl) ?_
        refine P_icE 129 114 rfl rfl rfl (rE_i (Cn_a gm 65) rfl _) (l32 402 rfl) rfl (fun h6 => ?_) (fun h6 => ?_)
        · skip
          refine P_gf 118 (.ref 289) rfl rfl rfl rfl rfl rfl ?_
          refine P_ld 120 (.int (i32 (cut (221 * v1)))) rfl (fun _ => rfl) ?_
          refine P_ld 123 (.int (i32 204)) rfl (fun _ => rfl) ?_
          refine P_op 124 (cut ((cut (221 * v1)) + 204)) _ rfl (fun _ => rfl) o_add ?_
          refine P_ld 126 (.int (i32 ((s.2.2 67) s.1))) rfl (fun _ => rfl) ?_
          refine P_op 127 (cut ((cut ((cut (221 * v1)) + 204)) + ((s.2.2 67) s.1))) _ rfl (fun _ => rfl) o_add ?_
          refine P_ld 128 (.int (i32 1)) rfl (fun _ => rfl) ?_
          refine P_bast2 (a' := [(135, upI (s.2.2 135) (cut ((cut ((cut (221 * v1)) + 204)) + ((s.2.2 67) s.1))) (nar1 1))]) 129 135 (s.2.2 135) rfl rfl rfl cut_r rfl rfl ?_
          refine P_lv (b := [(0, .ref 189), (1, .int (i32 v1)), (2, .int (i32 (j 2))), (3, .int (i32 v3)), (4, .int (i32 s.1)), (5, .int (i32 ((s.2.2 67) s.1))), (6, .int (i32 (cut (221 * v1))))]) rfl rfl ⟨rfl, rfl, rfl, rfl, rfl, rfl, rfl, trivial⟩ ?_
          exact dg_readsCode_129 w c N D bb v1 v3 s.1 q1 q3 g4 (mO s.2 [] [(135, upI (s.2.2 135) (cut ((cut ((cut (221 * v1)) + 204)) + ((s.2.2 67) s.1))) (nar1 1))]) (Cn_mO gm trivial ⟨(rE_ui (Cn_a gm 135) rfl t32_r), trivial⟩) (jk [(2, j 2), (5, (s.2.2 67) s.1), (6, cut (221 * v1))]) Q2 H1 H2
        · skip
          refine P_lv (b := [(0, .ref 189), (1, .int (i32 v1)), (2, .int (i32 (j 2))), (3, .int (i32 v3)), (4, .int (i32 s.1)), (5, .int (i32 ((s.2.2 67) s.1))), (6, .int (i32 (cut (221 * v1))))]) rfl rfl ⟨rfl, rfl, rfl, rfl, rfl, rfl, rfl, trivial⟩ ?_
          exact dg_readsCode_129 w c N D bb v1 v3 s.1 q1 q3 g4 s.2 gm (jk [(2, j 2), (5, (s.2.2 67) s.1), (6, cut (221 * v1))]) Q2 H1 H2
def rf_readsCode (v1 : Int) (v2 : Int) (v3 : Int) (m : mR) : Option (Int × mR) :=
  bnd (whl (rfb_readsCode_3 v1 v3) (v2, m)) (fun e7 : mR =>
    some (0, e7))
theorem D_readsCode (w : wX) (m : mR) (c : Nat → Option am_C) (N D : Nat) (hm : Cn m) (v1 : Int) (v2 : Int) (v3 : Int) (q1 : R32 v1) (q2 : R32 v2) (q3 : R32 v3) : PC w D 292 [.ref 189, .int (i32 v1), .int (i32 v2), .int (i32 v3)] (mhp m c, N) (QS (FR0 c N) (rf_readsCode v1 v2 v3 m)) := by
  refine Pc_of (fun D bb => ?_) D
  unfold rf_readsCode
  show PP bb w D pm_292 (0, [(0, .ref 189), (1, .int (i32 v1)), (2, .int (i32 v2)), (3, .int (i32 v3))], [], (mhp (mO m [] []) c, N), 0, 0) _
  refine P_ld 1 (.int (i32 v2)) rfl (fun _ => rfl) ?_
  refine P_sto 3 [(4, .int (i32 v2)), (0, .ref 189), (1, .int (i32 v1)), (2, .int (i32 v2)), (3, .int (i32 v3))] rfl (fun _ => rfl) ?_
  refine P_lv (b := [(0, .ref 189), (1, .int (i32 v1)), (2, .int (i32 v2)), (3, .int (i32 v3)), (4, .int (i32 v2)), (5, .int (i32 0)), (6, .int (i32 0))]) rfl rfl ⟨rfl, rfl, rfl, rfl, rfl, trivial⟩ ?_
  refine P_bnd ?_
  refine P_whl (fun bb Q2 H1 H2 s9 j9 hs9 => dh_readsCode_3 w c N D v1 v3 q1 q3 bb Q2 H1 H2 s9 j9 hs9) bb (fun e7 j q8 => ?_) (v2, m) (jk [(2, v2)]) ⟨q2, hm⟩
  have q9 := q8
  show PP bb w D pm_292 (135, [(0, .ref 189), (1, .int (i32 (j 1))), (2, .int (i32 (j 2))), (3, .int (i32 (j 3))), (4, .int (i32 (j 4))), (5, .int (i32 (j 5))), (6, .int (i32 (j 6)))], [], (mhp (mO e7 [] []) c, N), 0, 0) (QS _ (some (0, e7)))
  exact P_re0 rfl rfl q9
def rf_writesPlace (v1 : Int) (v2 : Int) (m : mR) : Option (Int × mR) :=
  if (16 : Int) ≤ v2 then
    some (0, (mO m [] [(135, upI (m.2 135) (cut ((cut ((cut (221 * v1)) + 192)) + ((cut (v2 - 16)).tdiv 16))) (nar1 1)), (136, upI (m.2 136) (cut ((cut ((cut (221 * v1)) + v2)) - 16)) (nar1 1))]))
  else
    some (0, (mO m [] [(136, upI (m.2 136) (cut ((cut ((cut (221 * v1)) + 204)) + v2)) (nar1 1))]))
theorem D_writesPlace (w : wX) (m : mR) (c : Nat → Option am_C) (N D : Nat) (hm : Cn m) (v1 : Int) (v2 : Int) (q1 : R32 v1) (q2 : R32 v2) : PC w D 293 [.ref 189, .int (i32 v1), .int (i32 v2)] (mhp m c, N) (QS (FR0 c N) (rf_writesPlace v1 v2 m)) := by
  refine Pc_of (fun D bb => ?_) D
  unfold rf_writesPlace
  show PP bb w D pm_293 (0, [(0, .ref 189), (1, .int (i32 v1)), (2, .int (i32 v2))], [], (mhp (mO m [] []) c, N), 0, 0) _
  refine P_ld 3 (.int (i32 221)) rfl (fun _ => rfl) ?_
  refine P_ld 4 (.int (i32 v1)) rfl (fun _ => rfl) ?_
  refine P_op 5 (cut (221 * v1)) _ rfl (fun _ => rfl) o_mul ?_
  refine P_sto 6 [(3, .int (i32 (cut (221 * v1)))), (0, .ref 189), (1, .int (i32 v1)), (2, .int (i32 v2))] rfl (fun _ => rfl) ?_
  refine P_ld 7 (.int (i32 v2)) rfl (fun _ => rfl) ?_
  refine P_ld 9 (.int (i32 16)) rfl (fun _ => rfl) ?_
  refine P_icF 26 12 rfl rfl rfl q2 (l32 16 rfl) rfl (fun h1 => ?_) (fun h1 => ?_)
  · skip
    refine P_gf 30 (.ref 290) rfl rfl rfl rfl rfl rfl ?_
    refine P_ld 31 (.int (i32 (cut (221 * v1)))) rfl (fun _ => rfl) ?_
    refine P_ld 32 (.int (i32 v2)) rfl (fun _ => rfl) ?_
    refine P_op 33 (cut ((cut (221 * v1)) + v2)) _ rfl (fun _ => rfl) o_add ?_
    refine P_ld 35 (.int (i32 16)) rfl (fun _ => rfl) ?_
    refine P_op 36 (cut ((cut ((cut (221 * v1)) + v2)) - 16)) _ rfl (fun _ => rfl) o_sub ?_
    refine P_ld 37 (.int (i32 1)) rfl (fun _ => rfl) ?_
    refine P_bast2 (a' := [(136, upI (m.2 136) (cut ((cut ((cut (221 * v1)) + v2)) - 16)) (nar1 1))]) 38 136 (m.2 136) rfl rfl rfl cut_r rfl rfl ?_
    refine P_gf 42 (.ref 289) rfl rfl rfl rfl rfl rfl ?_
    refine P_ld 43 (.int (i32 (cut (221 * v1)))) rfl (fun _ => rfl) ?_
    refine P_ld 46 (.int (i32 192)) rfl (fun _ => rfl) ?_
    refine P_op 47 (cut ((cut (221 * v1)) + 192)) _ rfl (fun _ => rfl) o_add ?_
    refine P_ld 48 (.int (i32 v2)) rfl (fun _ => rfl) ?_
    refine P_ld 50 (.int (i32 16)) rfl (fun _ => rfl) ?_
    refine P_op 51 (cut (v2 - 16)) _ rfl (fun _ => rfl) o_sub ?_
    refine P_ld 53 (.int (i32 16)) rfl (fun _ => rfl) ?_
    refine P_div 54 rfl rfl cut_r (by decide) (by decide) ?_
    refine P_op 55 (cut ((cut ((cut (221 * v1)) + 192)) + ((cut (v2 - 16)).tdiv 16))) _ rfl (fun _ => rfl) o_add ?_
    refine P_ld 56 (.int (i32 1)) rfl (fun _ => rfl) ?_
    refine P_bast2 (a' := [(135, upI (m.2 135) (cut ((cut ((cut (221 * v1)) + 192)) + ((cut (v2 - 16)).tdiv 16))) (nar1 1)), (136, upI (m.2 136) (cut ((cut ((cut (221 * v1)) + v2)) - 16)) (nar1 1))]) 57 135 (m.2 135) rfl rfl rfl cut_r rfl rfl ?_
    exact P_re0 rfl rfl (Cn_mO hm trivial ⟨(rE_ui (Cn_a hm 135) rfl t32_r), (rE_ui (Cn_a hm 136) rfl t32_r), trivial⟩)
  · skip
    refine P_gf 16 (.ref 290) rfl rfl rfl rfl rfl rfl ?_
    refine P_ld 17 (.int (i32 (cut (221 * v1)))) rfl (fun _ => rfl) ?_
    refine P_ld 20 (.int (i32 204)) rfl (fun _ => rfl) ?_
    refine P_op 21 (cut ((cut (221 * v1)) + 204)) _ rfl (fun _ => rfl) o_add ?_
    refine P_ld 22 (.int (i32 v2)) rfl (fun _ => rfl) ?_
    refine P_op 23 (cut ((cut ((cut (221 * v1)) + 204)) + v2)) _ rfl (fun _ => rfl) o_add ?_
    refine P_ld 24 (.int (i32 1)) rfl (fun _ => rfl) ?_
    refine P_bast2 (a' := [(136, upI (m.2 136) (cut ((cut ((cut (221 * v1)) + 204)) + v2)) (nar1 1))]) 25 136 (m.2 136) rfl rfl rfl cut_r rfl rfl ?_
    exact P_re0 rfl rfl (Cn_mO hm trivial ⟨(rE_ui (Cn_a hm 136) rfl t32_r), trivial⟩)
def cs_touches_209 (s : Int × mR) : Prop := R32 s.1 ∧ Cn s.2
def cx_touches_209 : (mR) → Prop := (fun (e : mR) => Cn e)
def hd_touches_209 (c : Nat → Option am_C) (N : Nat) (v3 : Int) (v4 : Int) (s : Int × mR) (j : Nat → Int) : ag_St af_T := (209, [(0, .ref 189), (1, .int (i32 (j 1))), (2, .int (i32 (j 2))), (3, .int (i32 v3)), (4, .int (i32 v4)), (5, .int (i32 s.1))], [], (mhp s.2 c, N), 0, 0)
def ex_touches_209 (c : Nat → Option am_C) (N : Nat) (v3 : Int) (v4 : Int) : (mR) → (Nat → Int) → ag_St af_T := (fun (e : mR) (j : Nat → Int) => ((248, [(0, .ref 189), (1, .int (i32 (j 1))), (2, .int (i32 (j 2))), (3, .int (i32 (j 3))), (4, .int (i32 (j 4))), (5, .int (i32 (j 5)))], [], (mhp e c, N), 0, 0) : ag_St af_T))
def rfb_touches_209 (v3 : Int) (v4 : Int) (s : Int × mR) : Option (Sum (Int × mR) (mR)) :=
  if (s.2.2 29) ((s.2.2 34) v4) ≤ s.1 then
    some (.inr s.2)
  else
    some (.inl (cut (s.1 + 1), (mO s.2 [] [(136, upI (s.2.2 136) (cut ((cut (v3 + (cut (16 * v4)))) + s.1)) (nar1 1))])))
theorem dh_touches_209 (w : wX) (c : Nat → Option am_C) (N D : Nat) (v3 : Int) (v4 : Int) (q3 : R32 v3) (q4 : R32 v4) (bb : Nat) (Q2 : Sum (Int × mR) (mR) → ag_Re af_T → Prop) (H1 : ∀ s j, cs_touches_209 s → PP bb w D pm_291 (hd_touches_209 c N v3 v4 s j) (Q2 (.inl s))) (H2 : ∀ x j, cx_touches_209 x → PP bb w D pm_291 (ex_touches_209 c N v3 v4 x j) (Q2 (.inr x))) (s : Int × mR) (j : Nat → Int) (hs : cs_touches_209 s) : PP (bb + 1) w D pm_291 (hd_touches_209 c N v3 v4 s j) (QS Q2 (rfb_touches_209 v3 v4 s)) := by
  obtain ⟨g5, gm⟩ := hs
  unfold rfb_touches_209
  show PP (bb + 1) w D pm_291 (209, [(0, .ref 189), (1, .int (i32 (j 1))), (2, .int (i32 (j 2))), (3, .int (i32 v3)), (4, .int (i32 v4)), (5, .int (i32 s.1))], [], (mhp (mO s.2 [] []) c, N), 0, 0) _
  refine P1_ld 211 (.int (i32 s.1)) rfl (fun _ => rfl) ?_
  refine P_gf 215 (.ref 199) rfl rfl rfl rfl rfl rfl ?_
  refine P_gf 219 (.ref 204) rfl rfl rfl rfl rfl rfl ?_
  refine P_ld 221 (.int (i32 v4)) rfl (fun _ => rfl) ?_
  refine P_iald2 222 34 (s.2.2 34) rfl rfl rfl q4 rfl ?_
  refine P_iald2 223 29 (s.2.2 29) rfl rfl rfl (rE_i (Cn_a gm 34) rfl _) rfl ?_
  refine P_icF 248 226 rfl rfl rfl g5 (rE_i (Cn_a gm 29) rfl _) rfl (fun h3 => ?_) (fun h3 => ?_)
  · skip
    refine P_some ?_
    exact H2 s.2 (jk [(1, j 1), (2, j 2), (3, v3), (4, v4), (5, s.1)]) gm
  · skip
    refine P_gf 230 (.ref 290) rfl rfl rfl rfl rfl rfl ?_
    refine P_ld 231 (.int (i32 v3)) rfl (fun _ => rfl) ?_
    refine P_ld 233 (.int (i32 16)) rfl (fun _ => rfl) ?_
    refine P_ld 235 (.int (i32 v4)) rfl (fun _ => rfl) ?_
    refine P_op 236 (cut (16 * v4)) _ rfl (fun _ => rfl) o_mul ?_
    refine P_op 237 (cut (v3 + (cut (16 * v4)))) _ rfl (fun _ => rfl) o_add ?_
    refine P_ld 239 (.int (i32 s.1)) rfl (fun _ => rfl) ?_
    refine P_op 240 (cut ((cut (v3 + (cut (16 * v4)))) + s.1)) _ rfl (fun _ => rfl) o_add ?_
    refine P_ld 241 (.int (i32 1)) rfl (fun _ => rfl) ?_
    refine P_bast2 (a' := [(136, upI (s.2.2 136) (cut ((cut (v3 + (cut (16 * v4)))) + s.1)) (nar1 1))]) 242 136 (s.2.2 136) rfl rfl rfl cut_r rfl rfl ?_
    refine P_inc 245 [(5, .int (i32 (cut (s.1 + 1)))), (0, .ref 189), (1, .int (i32 (j 1))), (2, .int (i32 (j 2))), (3, .int (i32 v3)), (4, .int (i32 v4))] rfl rfl (by decide) rfl rfl ?_
    refine P_goto 209 rfl (fun _ => rfl) ?_
    refine P_some ?_
    refine P_lv (b := [(0, .ref 189), (1, .int (i32 (j 1))), (2, .int (i32 (j 2))), (3, .int (i32 v3)), (4, .int (i32 v4)), (5, .int (i32 (cut (s.1 + 1))))]) rfl rfl ⟨rfl, rfl, rfl, rfl, rfl, rfl, trivial⟩ ?_
    exact H1 (cut (s.1 + 1), (mO s.2 [] [(136, upI (s.2.2 136) (cut ((cut (v3 + (cut (16 * v4)))) + s.1)) (nar1 1))])) (jk [(1, j 1), (2, j 2)]) ⟨cut_r, (Cn_mO gm trivial ⟨(rE_ui (Cn_a gm 136) rfl t32_r), trivial⟩)⟩
def rfl_touches_184 (v2 : Int) (v3 : Int) (m : mR) : Option (Int × mR) :=
  bnd (whl (rfb_touches_209 v3 ((m.2 104) v2)) (0, (mO m [] [(136, upI (m.2 136) (cut ((cut (v3 + 192)) + ((m.2 104) v2))) (nar1 1))]))) (fun e4 : mR =>
    some (0, e4))
theorem dg_touches_184 (w : wX) (c : Nat → Option am_C) (N D : Nat) (bb : Nat) (v2 : Int) (v3 : Int) (q2 : R32 v2) (q3 : R32 v3) (m : mR) (hm : Cn m) (j : Nat → Int) : PP bb w D pm_291 (184, [(0, .ref 189), (1, .int (i32 (j 1))), (2, .int (i32 v2)), (3, .int (i32 v3))], [], (mhp m c, N), 0, 0) (QS (FR0 c N) (rfl_touches_184 v2 v3 m)) := by
  unfold rfl_touches_184
  show PP bb w D pm_291 (184, [(0, .ref 189), (1, .int (i32 (j 1))), (2, .int (i32 v2)), (3, .int (i32 v3))], [], (mhp (mO m [] []) c, N), 0, 0) _
  refine P_gf 188 (.ref 264) rfl rfl rfl rfl rfl rfl ?_
  refine P_ld 189 (.int (i32 v2)) rfl (fun _ => rfl) ?_
  refine P_iald2 190 104 (m.2 104) rfl rfl rfl q2 rfl ?_
  refine P_sto 192 [(4, .int (i32 ((m.2 104) v2))), (0, .ref 189), (1, .int (i32 (j 1))), (2, .int (i32 v2)), (3, .int (i32 v3))] rfl (fun _ => rfl) ?_
  refine P_gf 196 (.ref 290) rfl rfl rfl rfl rfl rfl ?_
  refine P_ld 197 (.int (i32 v3)) rfl (fun _ => rfl) ?_
  refine P_ld 200 (.int (i32 192)) rfl (fun _ => rfl) ?_
  refine P_op 201 (cut (v3 + 192)) _ rfl (fun _ => rfl) o_add ?_
  refine P_ld 203 (.int (i32 ((m.2 104) v2))) rfl (fun _ => rfl) ?_
  refine P_op 204 (cut ((cut (v3 + 192)) + ((m.2 104) v2))) _ rfl (fun _ => rfl) o_add ?_
  refine P_ld 205 (.int (i32 1)) rfl (fun _ => rfl) ?_
  refine P_bast2 (a' := [(136, upI (m.2 136) (cut ((cut (v3 + 192)) + ((m.2 104) v2))) (nar1 1))]) 206 136 (m.2 136) rfl rfl rfl cut_r rfl rfl ?_
  refine P_ld 207 (.int (i32 0)) rfl (fun _ => rfl) ?_
  refine P_sto 209 [(5, .int (i32 0)), (4, .int (i32 ((m.2 104) v2))), (0, .ref 189), (1, .int (i32 (j 1))), (2, .int (i32 v2)), (3, .int (i32 v3))] rfl (fun _ => rfl) ?_
  refine P_lv (b := [(0, .ref 189), (1, .int (i32 (j 1))), (2, .int (i32 v2)), (3, .int (i32 v3)), (4, .int (i32 ((m.2 104) v2))), (5, .int (i32 0))]) rfl rfl ⟨rfl, rfl, rfl, rfl, rfl, rfl, trivial⟩ ?_
  refine P_bnd ?_
  refine P_whl (fun bb Q2 H1 H2 s9 j9 hs9 => dh_touches_209 w c N D v3 ((m.2 104) v2) q3 (rE_i (Cn_a hm 104) rfl _) bb Q2 H1 H2 s9 j9 hs9) bb (fun e4 j q5 => ?_) (0, (mO m [] [(136, upI (m.2 136) (cut ((cut (v3 + 192)) + ((m.2 104) v2))) (nar1 1))])) (jk [(1, j 1), (2, v2)]) ⟨(l32 0 rfl), (Cn_mO hm trivial ⟨(rE_ui (Cn_a hm 136) rfl t32_r), trivial⟩)⟩
  have q6 := q5
  show PP bb w D pm_291 (248, [(0, .ref 189), (1, .int (i32 (j 1))), (2, .int (i32 (j 2))), (3, .int (i32 (j 3))), (4, .int (i32 (j 4))), (5, .int (i32 (j 5)))], [], (mhp (mO e4 [] []) c, N), 0, 0) (QS _ (some (0, e4)))
  exact P_re0 rfl rfl q6
def rfl_touches_159 (v2 : Int) (v3 : Int) (m : mR) : Option (Int × mR) :=
  if (m.2 101) v2 = 324 then
    rfl_touches_184 v2 v3 m
  else
    if (m.2 101) v2 = 325 then
      rfl_touches_184 v2 v3 m
    else
      some (0, m)
theorem dg_touches_159 (w : wX) (c : Nat → Option am_C) (N D : Nat) (bb : Nat) (v2 : Int) (v3 : Int) (q2 : R32 v2) (q3 : R32 v3) (m : mR) (hm : Cn m) (j : Nat → Int) : PP bb w D pm_291 (159, [(0, .ref 189), (1, .int (i32 (j 1))), (2, .int (i32 v2)), (3, .int (i32 v3))], [], (mhp m c, N), 0, 0) (QS (FR0 c N) (rfl_touches_159 v2 v3 m)) := by
  unfold rfl_touches_159
  show PP bb w D pm_291 (159, [(0, .ref 189), (1, .int (i32 (j 1))), (2, .int (i32 v2)), (3, .int (i32 v3))], [], (mhp (mO m [] []) c, N), 0, 0) _
  refine P_gf 163 (.ref 261) rfl rfl rfl rfl rfl rfl ?_
  refine P_ld 164 (.int (i32 v2)) rfl (fun _ => rfl) ?_
  refine P_iald2 165 101 (m.2 101) rfl rfl rfl q2 rfl ?_
  refine P_ld 168 (.int (i32 324)) rfl (fun _ => rfl) ?_
  refine P_icF 184 171 rfl rfl rfl (rE_i (Cn_a hm 101) rfl _) (l32 324 rfl) rfl (fun h7 => ?_) (fun h7 => ?_)
  · skip
    exact dg_touches_184 w c N D bb v2 v3 q2 q3 m hm (jk [(1, j 1)])
  · skip
    refine P_gf 175 (.ref 261) rfl rfl rfl rfl rfl rfl ?_
    refine P_ld 176 (.int (i32 v2)) rfl (fun _ => rfl) ?_
    refine P_iald2 177 101 (m.2 101) rfl rfl rfl q2 rfl ?_
    refine P_ld 180 (.int (i32 325)) rfl (fun _ => rfl) ?_
    refine P_icF 184 183 rfl rfl rfl (rE_i (Cn_a hm 101) rfl _) (l32 325 rfl) rfl (fun h8 => ?_) (fun h8 => ?_)
    · skip
      exact dg_touches_184 w c N D bb v2 v3 q2 q3 m hm (jk [(1, j 1)])
    · skip
      exact P_re0 rfl rfl hm
def rfl_touches_136 (v2 : Int) (v3 : Int) (m : mR) : Option (Int × mR) :=
  if (m.2 101) v2 = 326 then
    rfl_touches_159 v2 v3 (mO m [] [(136, upI (m.2 136) (cut (v3 + 220)) (nar1 1))])
  else
    rfl_touches_159 v2 v3 m
theorem dg_touches_136 (w : wX) (c : Nat → Option am_C) (N D : Nat) (bb : Nat) (v2 : Int) (v3 : Int) (q2 : R32 v2) (q3 : R32 v3) (m : mR) (hm : Cn m) (j : Nat → Int) : PP bb w D pm_291 (136, [(0, .ref 189), (1, .int (i32 (j 1))), (2, .int (i32 v2)), (3, .int (i32 v3))], [], (mhp m c, N), 0, 0) (QS (FR0 c N) (rfl_touches_136 v2 v3 m)) := by
  unfold rfl_touches_136
  show PP bb w D pm_291 (136, [(0, .ref 189), (1, .int (i32 (j 1))), (2, .int (i32 v2)), (3, .int (i32 v3))], [], (mhp (mO m [] []) c, N), 0, 0) _
  refine P_gf 140 (.ref 261) rfl rfl rfl rfl rfl rfl ?_
  refine P_ld 141 (.int (i32 v2)) rfl (fun _ => rfl) ?_
  refine P_iald2 142 101 (m.2 101) rfl rfl rfl q2 rfl ?_
  refine P_ld 145 (.int (i32 326)) rfl (fun _ => rfl) ?_
  refine P_icE 159 148 rfl rfl rfl (rE_i (Cn_a hm 101) rfl _) (l32 326 rfl) rfl (fun h9 => ?_) (fun h9 => ?_)
  · skip
    refine P_gf 152 (.ref 290) rfl rfl rfl rfl rfl rfl ?_
    refine P_ld 153 (.int (i32 v3)) rfl (fun _ => rfl) ?_
    refine P_ld 156 (.int (i32 220)) rfl (fun _ => rfl) ?_
    refine P_op 157 (cut (v3 + 220)) _ rfl (fun _ => rfl) o_add ?_
    refine P_ld 158 (.int (i32 1)) rfl (fun _ => rfl) ?_
    refine P_bast2 (a' := [(136, upI (m.2 136) (cut (v3 + 220)) (nar1 1))]) 159 136 (m.2 136) rfl rfl rfl cut_r rfl rfl ?_
    exact dg_touches_159 w c N D bb v2 v3 q2 q3 (mO m [] [(136, upI (m.2 136) (cut (v3 + 220)) (nar1 1))]) (Cn_mO hm trivial ⟨(rE_ui (Cn_a hm 136) rfl t32_r), trivial⟩) (jk [(1, j 1)])
  · skip
    exact dg_touches_159 w c N D bb v2 v3 q2 q3 m hm (jk [(1, j 1)])
def rfl_touches_125 (v1 : Int) (v2 : Int) (v3 : Int) (m : mR) : Option (Int × mR) :=
  bnd (rf_writesPlace v1 ((m.2 102) v2) m) fun y10 =>
  rfl_touches_136 v2 v3 y10.2
theorem dg_touches_125 (w : wX) (c : Nat → Option am_C) (N D : Nat) (bb : Nat) (v1 : Int) (v2 : Int) (v3 : Int) (q1 : R32 v1) (q2 : R32 v2) (q3 : R32 v3) (m : mR) (hm : Cn m) (j : Nat → Int) : PP bb w D pm_291 (125, [(0, .ref 189), (1, .int (i32 v1)), (2, .int (i32 v2)), (3, .int (i32 v3))], [], (mhp m c, N), 0, 0) (QS (FR0 c N) (rfl_touches_125 v1 v2 v3 m)) := by
  unfold rfl_touches_125
  show PP bb w D pm_291 (125, [(0, .ref 189), (1, .int (i32 v1)), (2, .int (i32 v2)), (3, .int (i32 v3))], [], (mhp (mO m [] []) c, N), 0, 0) _
  refine P_ld 126 (.ref 189) rfl (fun _ => rfl) ?_
  refine P_ld 127 (.int (i32 v1)) rfl (fun _ => rfl) ?_
  refine P_gf 131 (.ref 262) rfl rfl rfl rfl rfl rfl ?_
  refine P_ld 132 (.int (i32 v2)) rfl (fun _ => rfl) ?_
  refine P_iald2 133 102 (m.2 102) rfl rfl rfl q2 rfl ?_
  refine P_ca0 136 293 [.ref 189, .int (i32 v1), .int (i32 ((m.2 102) v2))] [] rfl (fun _ => rfl) rfl (D_writesPlace w m c N D hm v1 ((m.2 102) v2) q1 (rE_i (Cn_a hm 102) rfl _)) (fun y10 n12 => ?_)
  exact dg_touches_136 w c N D bb v2 v3 q2 q3 y10.2 n12 (jk [(1, v1)])
def rfl_touches_103 (v1 : Int) (v2 : Int) (v3 : Int) (m : mR) : Option (Int × mR) :=
  if (m.2 101) v2 = 1 then
    rfl_touches_125 v1 v2 v3 m
  else
    if (m.2 101) v2 = 327 then
      rfl_touches_125 v1 v2 v3 m
    else
      rfl_touches_136 v2 v3 m
theorem dg_touches_103 (w : wX) (c : Nat → Option am_C) (N D : Nat) (bb : Nat) (v1 : Int) (v2 : Int) (v3 : Int) (q1 : R32 v1) (q2 : R32 v2) (q3 : R32 v3) (m : mR) (hm : Cn m) (j : Nat → Int) : PP bb w D pm_291 (103, [(0, .ref 189), (1, .int (i32 v1)), (2, .int (i32 v2)), (3, .int (i32 v3))], [], (mhp m c, N), 0, 0) (QS (FR0 c N) (rfl_touches_103 v1 v2 v3 m)) := by
  unfold rfl_touches_103
  show PP bb w D pm_291 (103, [(0, .ref 189), (1, .int (i32 v1)), (2, .int (i32 v2)), (3, .int (i32 v3))], [], (mhp (mO m [] []) c, N), 0, 0) _
  refine P_gf 107 (.ref 261) rfl rfl rfl rfl rfl rfl ?_
  refine P_ld 108 (.int (i32 v2)) rfl (fun _ => rfl) ?_
  refine P_iald2 109 101 (m.2 101) rfl rfl rfl q2 rfl ?_
  refine P_ld 110 (.int (i32 1)) rfl (fun _ => rfl) ?_
  refine P_icF 125 113 rfl rfl rfl (rE_i (Cn_a hm 101) rfl _) (l32 1 rfl) rfl (fun h13 => ?_) (fun h13 => ?_)
  · skip
    exact dg_touches_125 w c N D bb v1 v2 v3 q1 q2 q3 m hm (jk [])
  · skip
    refine P_gf 117 (.ref 261) rfl rfl rfl rfl rfl rfl ?_
    refine P_ld 118 (.int (i32 v2)) rfl (fun _ => rfl) ?_
    refine P_iald2 119 101 (m.2 101) rfl rfl rfl q2 rfl ?_
    refine P_ld 122 (.int (i32 327)) rfl (fun _ => rfl) ?_
    refine P_icE 136 125 rfl rfl rfl (rE_i (Cn_a hm 101) rfl _) (l32 327 rfl) rfl (fun h14 => ?_) (fun h14 => ?_)
    · skip
      exact dg_touches_125 w c N D bb v1 v2 v3 q1 q2 q3 m hm (jk [])
    · skip
      exact dg_touches_136 w c N D bb v2 v3 q2 q3 m hm (jk [(1, v1)])
def rfl_touches_86 (v1 : Int) (v2 : Int) (v3 : Int) (m : mR) : Option (Int × mR) :=
  bnd (rf_readsCode v1 ((m.2 107) v2) ((m.2 108) v2) m) fun y15 =>
  rfl_touches_103 v1 v2 v3 y15.2
theorem dg_touches_86 (w : wX) (c : Nat → Option am_C) (N D : Nat) (bb : Nat) (v1 : Int) (v2 : Int) (v3 : Int) (q1 : R32 v1) (q2 : R32 v2) (q3 : R32 v3) (m : mR) (hm : Cn m) (j : Nat → Int) : PP bb w D pm_291 (86, [(0, .ref 189), (1, .int (i32 v1)), (2, .int (i32 v2)), (3, .int (i32 v3))], [], (mhp m c, N), 0, 0) (QS (FR0 c N) (rfl_touches_86 v1 v2 v3 m)) := by
  unfold rfl_touches_86
  show PP bb w D pm_291 (86, [(0, .ref 189), (1, .int (i32 v1)), (2, .int (i32 v2)), (3, .int (i32 v3))], [], (mhp (mO m [] []) c, N), 0, 0) _
  refine P_ld 87 (.ref 189) rfl (fun _ => rfl) ?_
  refine P_ld 88 (.int (i32 v1)) rfl (fun _ => rfl) ?_
  refine P_gf 92 (.ref 267) rfl rfl rfl rfl rfl rfl ?_
  refine P_ld 93 (.int (i32 v2)) rfl (fun _ => rfl) ?_
  refine P_iald2 94 107 (m.2 107) rfl rfl rfl q2 rfl ?_
  refine P_gf 98 (.ref 268) rfl rfl rfl rfl rfl rfl ?_
  refine P_ld 99 (.int (i32 v2)) rfl (fun _ => rfl) ?_
  refine P_iald2 100 108 (m.2 108) rfl rfl rfl q2 rfl ?_
  refine P_ca0 103 292 [.ref 189, .int (i32 v1), .int (i32 ((m.2 107) v2)), .int (i32 ((m.2 108) v2))] [] rfl (fun _ => rfl) rfl (D_readsCode w m c N D hm v1 ((m.2 107) v2) ((m.2 108) v2) q1 (rE_i (Cn_a hm 107) rfl _) (rE_i (Cn_a hm 108) rfl _)) (fun y15 n17 => ?_)
  exact dg_touches_103 w c N D bb v1 v2 v3 q1 q2 q3 y15.2 n17 (jk [])
def rfl_touches_64 (v1 : Int) (v2 : Int) (v3 : Int) (m : mR) : Option (Int × mR) :=
  if (m.2 101) v2 = 1 then
    rfl_touches_86 v1 v2 v3 m
  else
    if (m.2 101) v2 = 328 then
      rfl_touches_86 v1 v2 v3 m
    else
      rfl_touches_103 v1 v2 v3 m
theorem dg_touches_64 (w : wX) (c : Nat → Option am_C) (N D : Nat) (bb : Nat) (v1 : Int) (v2 : Int) (v3 : Int) (q1 : R32 v1) (q2 : R32 v2) (q3 : R32 v3) (m : mR) (hm : Cn m) (j : Nat → Int) : PP bb w D pm_291 (64, [(0, .ref 189), (1, .int (i32 v1)), (2, .int (i32 v2)), (3, .int (i32 v3))], [], (mhp m c, N), 0, 0) (QS (FR0 c N) (rfl_touches_64 v1 v2 v3 m)) := by
  unfold rfl_touches_64
  show PP bb w D pm_291 (64, [(0, .ref 189), (1, .int (i32 v1)), (2, .int (i32 v2)), (3, .int (i32 v3))], [], (mhp (mO m [] []) c, N), 0, 0) _
  refine P_gf 68 (.ref 261) rfl rfl rfl rfl rfl rfl ?_
  refine P_ld 69 (.int (i32 v2)) rfl (fun _ => rfl) ?_
  refine P_iald2 70 101 (m.2 101) rfl rfl rfl q2 rfl ?_
  refine P_ld 71 (.int (i32 1)) rfl (fun _ => rfl) ?_
  refine P_icF 86 74 rfl rfl rfl (rE_i (Cn_a hm 101) rfl _) (l32 1 rfl) rfl (fun h18 => ?_) (fun h18 => ?_)
  · skip
    exact dg_touches_86 w c N D bb v1 v2 v3 q1 q2 q3 m hm (jk [])
  · skip
    refine P_gf 78 (.ref 261) rfl rfl rfl rfl rfl rfl ?_
    refine P_ld 79 (.int (i32 v2)) rfl (fun _ => rfl) ?_
    refine P_iald2 80 101 (m.2 101) rfl rfl rfl q2 rfl ?_
    refine P_ld 83 (.int (i32 328)) rfl (fun _ => rfl) ?_
    refine P_icE 103 86 rfl rfl rfl (rE_i (Cn_a hm 101) rfl _) (l32 328 rfl) rfl (fun h19 => ?_) (fun h19 => ?_)
    · skip
      exact dg_touches_86 w c N D bb v1 v2 v3 q1 q2 q3 m hm (jk [])
    · skip
      exact dg_touches_103 w c N D bb v1 v2 v3 q1 q2 q3 m hm (jk [])
def rfl_touches_47 (v1 : Int) (v2 : Int) (v3 : Int) (m : mR) : Option (Int × mR) :=
  rfl_touches_64 v1 v2 v3 (mO m [] [(137, upI (m.2 137) (cut ((cut (8 * v1)) + ((m.2 103) v2))) (nar1 1))])
theorem dg_touches_47 (w : wX) (c : Nat → Option am_C) (N D : Nat) (bb : Nat) (v1 : Int) (v2 : Int) (v3 : Int) (q1 : R32 v1) (q2 : R32 v2) (q3 : R32 v3) (m : mR) (hm : Cn m) (j : Nat → Int) : PP bb w D pm_291 (47, [(0, .ref 189), (1, .int (i32 v1)), (2, .int (i32 v2)), (3, .int (i32 v3))], [], (mhp m c, N), 0, 0) (QS (FR0 c N) (rfl_touches_47 v1 v2 v3 m)) := by
  unfold rfl_touches_47
  show PP bb w D pm_291 (47, [(0, .ref 189), (1, .int (i32 v1)), (2, .int (i32 v2)), (3, .int (i32 v3))], [], (mhp (mO m [] []) c, N), 0, 0) _
  refine P_gf 51 (.ref 291) rfl rfl rfl rfl rfl rfl ?_
  refine P_ld 53 (.int (i32 8)) rfl (fun _ => rfl) ?_
  refine P_ld 54 (.int (i32 v1)) rfl (fun _ => rfl) ?_
  refine P_op 55 (cut (8 * v1)) _ rfl (fun _ => rfl) o_mul ?_
  refine P_gf 59 (.ref 263) rfl rfl rfl rfl rfl rfl ?_
  refine P_ld 60 (.int (i32 v2)) rfl (fun _ => rfl) ?_
  refine P_iald2 61 103 (m.2 103) rfl rfl rfl q2 rfl ?_
  refine P_op 62 (cut ((cut (8 * v1)) + ((m.2 103) v2))) _ rfl (fun _ => rfl) o_add ?_
  refine P_ld 63 (.int (i32 1)) rfl (fun _ => rfl) ?_
  refine P_bast2 (a' := [(137, upI (m.2 137) (cut ((cut (8 * v1)) + ((m.2 103) v2))) (nar1 1))]) 64 137 (m.2 137) rfl rfl rfl cut_r rfl rfl ?_
  exact dg_touches_64 w c N D bb v1 v2 v3 q1 q2 q3 (mO m [] [(137, upI (m.2 137) (cut ((cut (8 * v1)) + ((m.2 103) v2))) (nar1 1))]) (Cn_mO hm trivial ⟨(rE_ui (Cn_a hm 137) rfl t32_r), trivial⟩) (jk [])
def rfl_touches_30 (v1 : Int) (v2 : Int) (v3 : Int) (m : mR) : Option (Int × mR) :=
  bnd (rf_readsCode v1 ((m.2 105) v2) ((m.2 106) v2) m) fun y20 =>
  rfl_touches_47 v1 v2 v3 y20.2
theorem dg_touches_30 (w : wX) (c : Nat → Option am_C) (N D : Nat) (bb : Nat) (v1 : Int) (v2 : Int) (v3 : Int) (q1 : R32 v1) (q2 : R32 v2) (q3 : R32 v3) (m : mR) (hm : Cn m) (j : Nat → Int) : PP bb w D pm_291 (30, [(0, .ref 189), (1, .int (i32 v1)), (2, .int (i32 v2)), (3, .int (i32 v3))], [], (mhp m c, N), 0, 0) (QS (FR0 c N) (rfl_touches_30 v1 v2 v3 m)) := by
  unfold rfl_touches_30
  show PP bb w D pm_291 (30, [(0, .ref 189), (1, .int (i32 v1)), (2, .int (i32 v2)), (3, .int (i32 v3))], [], (mhp (mO m [] []) c, N), 0, 0) _
  refine P_ld 31 (.ref 189) rfl (fun _ => rfl) ?_
  refine P_ld 32 (.int (i32 v1)) rfl (fun _ => rfl) ?_
  refine P_gf 36 (.ref 265) rfl rfl rfl rfl rfl rfl ?_
  refine P_ld 37 (.int (i32 v2)) rfl (fun _ => rfl) ?_
  refine P_iald2 38 105 (m.2 105) rfl rfl rfl q2 rfl ?_
  refine P_gf 42 (.ref 266) rfl rfl rfl rfl rfl rfl ?_
  refine P_ld 43 (.int (i32 v2)) rfl (fun _ => rfl) ?_
  refine P_iald2 44 106 (m.2 106) rfl rfl rfl q2 rfl ?_
  refine P_ca0 47 292 [.ref 189, .int (i32 v1), .int (i32 ((m.2 105) v2)), .int (i32 ((m.2 106) v2))] [] rfl (fun _ => rfl) rfl (D_readsCode w m c N D hm v1 ((m.2 105) v2) ((m.2 106) v2) q1 (rE_i (Cn_a hm 105) rfl _) (rE_i (Cn_a hm 106) rfl _)) (fun y20 n22 => ?_)
  exact dg_touches_47 w c N D bb v1 v2 v3 q1 q2 q3 y20.2 n22 (jk [])
def rf_touches (v1 : Int) (v2 : Int) (m : mR) : Option (Int × mR) :=
  if (m.2 101) v2 = 327 then
    rfl_touches_30 v1 v2 (cut (221 * v1)) m
  else
    if (m.2 101) v2 = 328 then
      rfl_touches_30 v1 v2 (cut (221 * v1)) m
    else
      rfl_touches_64 v1 v2 (cut (221 * v1)) m
theorem D_touches (w : wX) (m : mR) (c : Nat → Option am_C) (N D : Nat) (hm : Cn m) (v1 : Int) (v2 : Int) (q1 : R32 v1) (q2 : R32 v2) : PC w D 291 [.ref 189, .int (i32 v1), .int (i32 v2)] (mhp m c, N) (QS (FR0 c N) (rf_touches v1 v2 m)) := by
  refine Pc_of (fun D bb => ?_) D
  unfold rf_touches
  show PP bb w D pm_291 (0, [(0, .ref 189), (1, .int (i32 v1)), (2, .int (i32 v2))], [], (mhp (mO m [] []) c, N), 0, 0) _
  refine P_ld 3 (.int (i32 221)) rfl (fun _ => rfl) ?_
  refine P_ld 4 (.int (i32 v1)) rfl (fun _ => rfl) ?_
  refine P_op 5 (cut (221 * v1)) _ rfl (fun _ => rfl) o_mul ?_
  refine P_sto 6 [(3, .int (i32 (cut (221 * v1)))), (0, .ref 189), (1, .int (i32 v1)), (2, .int (i32 v2))] rfl (fun _ => rfl) ?_
  refine P_gf 10 (.ref 261) rfl rfl rfl rfl rfl rfl ?_
  refine P_ld 11 (.int (i32 v2)) rfl (fun _ => rfl) ?_
  refine P_iald2 12 101 (m.2 101) rfl rfl rfl q2 rfl ?_
  refine P_ld 15 (.int (i32 327)) rfl (fun _ => rfl) ?_
  refine P_icF 30 18 rfl rfl rfl (rE_i (Cn_a hm 101) rfl _) (l32 327 rfl) rfl (fun h23 => ?_) (fun h23 => ?_)
  · skip
    refine P_lv (b := [(0, .ref 189), (1, .int (i32 v1)), (2, .int (i32 v2)), (3, .int (i32 (cut (221 * v1))))]) rfl rfl ⟨rfl, rfl, rfl, rfl, trivial⟩ ?_
    exact dg_touches_30 w c N D bb v1 v2 (cut (221 * v1)) q1 q2 cut_r m hm (jk [])
  · skip
    refine P_gf 22 (.ref 261) rfl rfl rfl rfl rfl rfl ?_
    refine P_ld 23 (.int (i32 v2)) rfl (fun _ => rfl) ?_
    refine P_iald2 24 101 (m.2 101) rfl rfl rfl q2 rfl ?_
    refine P_ld 27 (.int (i32 328)) rfl (fun _ => rfl) ?_
    refine P_icE 64 30 rfl rfl rfl (rE_i (Cn_a hm 101) rfl _) (l32 328 rfl) rfl (fun h24 => ?_) (fun h24 => ?_)
    · skip
      refine P_lv (b := [(0, .ref 189), (1, .int (i32 v1)), (2, .int (i32 v2)), (3, .int (i32 (cut (221 * v1))))]) rfl rfl ⟨rfl, rfl, rfl, rfl, trivial⟩ ?_
      exact dg_touches_30 w c N D bb v1 v2 (cut (221 * v1)) q1 q2 cut_r m hm (jk [])
    · skip
      refine P_lv (b := [(0, .ref 189), (1, .int (i32 v1)), (2, .int (i32 v2)), (3, .int (i32 (cut (221 * v1))))]) rfl rfl ⟨rfl, rfl, rfl, rfl, trivial⟩ ?_
      exact dg_touches_64 w c N D bb v1 v2 (cut (221 * v1)) q1 q2 cut_r m hm (jk [])
def cs_touchesAction_7 (s : Int × mR) : Prop := R32 s.1 ∧ Cn s.2
def cx_touchesAction_7 : (mR) → Prop := (fun (e : mR) => Cn e)
def hd_touchesAction_7 (c : Nat → Option am_C) (N : Nat) (v1 : Int) (v2 : Int) (s : Int × mR) (j : Nat → Int) : ag_St af_T := (7, [(0, .ref 189), (1, .int (i32 v1)), (2, .int (i32 v2)), (3, .int (i32 s.1))], [], (mhp s.2 c, N), 0, 0)
def ex_touchesAction_7 (c : Nat → Option am_C) (N : Nat) (v1 : Int) (v2 : Int) : (mR) → (Nat → Int) → ag_St af_T := (fun (e : mR) (j : Nat → Int) => ((36, [(0, .ref 189), (1, .int (i32 (j 1))), (2, .int (i32 (j 2))), (3, .int (i32 (j 3)))], [], (mhp e c, N), 0, 0) : ag_St af_T))
def rfl_touchesAction_30 (v1 : Int) (v2 : Int) (v3 : Int) (m : mR) : Option (Sum (Int × mR) (mR)) :=
  some (.inl (cut (v3 + 1), m))
theorem dg_touchesAction_30 (w : wX) (c : Nat → Option am_C) (N D : Nat) (bb : Nat) (v1 : Int) (v2 : Int) (v3 : Int) (q1 : R32 v1) (q2 : R32 v2) (q3 : R32 v3) (m : mR) (hm : Cn m) (j : Nat → Int) (Q2 : Sum (Int × mR) (mR) → ag_Re af_T → Prop) (H1 : ∀ s j, cs_touchesAction_7 s → PP bb w D pm_294 (hd_touchesAction_7 c N v1 v2 s j) (Q2 (.inl s))) (H2 : ∀ x j, cx_touchesAction_7 x → PP bb w D pm_294 (ex_touchesAction_7 c N v1 v2 x j) (Q2 (.inr x))) : PP bb w D pm_294 (30, [(0, .ref 189), (1, .int (i32 v1)), (2, .int (i32 v2)), (3, .int (i32 v3))], [], (mhp m c, N), 0, 0) (QS Q2 (rfl_touchesAction_30 v1 v2 v3 m)) := by
  unfold rfl_touchesAction_30
  show PP bb w D pm_294 (30, [(0, .ref 189), (1, .int (i32 v1)), (2, .int (i32 v2)), (3, .int (i32 v3))], [], (mhp (mO m [] []) c, N), 0, 0) _
  refine P_inc 33 [(3, .int (i32 (cut (v3 + 1)))), (0, .ref 189), (1, .int (i32 v1)), (2, .int (i32 v2))] rfl rfl (by decide) rfl rfl ?_
  refine P_goto 7 rfl (fun _ => rfl) ?_
  refine P_some ?_
  refine P_lv (b := [(0, .ref 189), (1, .int (i32 v1)), (2, .int (i32 v2)), (3, .int (i32 (cut (v3 + 1))))]) rfl rfl ⟨rfl, rfl, rfl, rfl, trivial⟩ ?_
  exact H1 (cut (v3 + 1), m) (jk []) ⟨cut_r, hm⟩
def rfb_touchesAction_7 (v1 : Int) (v2 : Int) (s : Int × mR) : Option (Sum (Int × mR) (mR)) :=
  if cut (((s.2.2 109) v2) + ((s.2.2 50) v2)) ≤ s.1 then
    some (.inr s.2)
  else
    bnd (rf_touches v1 s.1 s.2) fun y4 =>
    rfl_touchesAction_30 v1 v2 s.1 y4.2
theorem dh_touchesAction_7 (w : wX) (c : Nat → Option am_C) (N D : Nat) (v1 : Int) (v2 : Int) (q1 : R32 v1) (q2 : R32 v2) (bb : Nat) (Q2 : Sum (Int × mR) (mR) → ag_Re af_T → Prop) (H1 : ∀ s j, cs_touchesAction_7 s → PP bb w D pm_294 (hd_touchesAction_7 c N v1 v2 s j) (Q2 (.inl s))) (H2 : ∀ x j, cx_touchesAction_7 x → PP bb w D pm_294 (ex_touchesAction_7 c N v1 v2 x j) (Q2 (.inr x))) (s : Int × mR) (j : Nat → Int) (hs : cs_touchesAction_7 s) : PP (bb + 1) w D pm_294 (hd_touchesAction_7 c N v1 v2 s j) (QS Q2 (rfb_touchesAction_7 v1 v2 s)) := by
  obtain ⟨g3, gm⟩ := hs
  unfold rfb_touchesAction_7
  show PP (bb + 1) w D pm_294 (7, [(0, .ref 189), (1, .int (i32 v1)), (2, .int (i32 v2)), (3, .int (i32 s.1))], [], (mhp (mO s.2 [] []) c, N), 0, 0) _
  refine P1_ld 8 (.int (i32 s.1)) rfl (fun _ => rfl) ?_
  refine P_gf 12 (.ref 269) rfl rfl rfl rfl rfl rfl ?_
  refine P_ld 13 (.int (i32 v2)) rfl (fun _ => rfl) ?_
  refine P_iald2 14 109 (s.2.2 109) rfl rfl rfl q2 rfl ?_
  refine P_gf 18 (.ref 220) rfl rfl rfl rfl rfl rfl ?_
  refine P_ld 19 (.int (i32 v2)) rfl (fun _ => rfl) ?_
  refine P_iald2 20 50 (s.2.2 50) rfl rfl rfl q2 rfl ?_
  refine P_op 21 (cut (((s.2.2 109) v2) + ((s.2.2 50) v2))) _ rfl (fun _ => rfl) o_add ?_
  refine P_icF 36 24 rfl rfl rfl g3 cut_r rfl (fun h3 => ?_) (fun h3 => ?_)
  · skip
    refine P_some ?_
    exact H2 s.2 (jk [(1, v1), (2, v2), (3, s.1)]) gm
  · skip
    refine P_ld 25 (.ref 189) rfl (fun _ => rfl) ?_
    refine P_ld 26 (.int (i32 v1)) rfl (fun _ => rfl) ?_
    refine P_ld 27 (.int (i32 s.1)) rfl (fun _ => rfl) ?_
    refine P_ca0 30 291 [.ref 189, .int (i32 v1), .int (i32 s.1)] [] rfl (fun _ => rfl) rfl (D_touches w s.2 c N D gm v1 s.1 q1 g3) (fun y4 n6 => ?_)
    exact dg_touchesAction_30 w c N D bb v1 v2 s.1 q1 q2 g3 y4.2 n6 (jk []) Q2 H1 H2
def rf_touchesAction (v1 : Int) (v2 : Int) (m : mR) : Option (Int × mR) :=
  bnd (whl (rfb_touchesAction_7 v1 v2) ((m.2 109) v2, m)) (fun e7 : mR =>
    some (0, e7))
theorem D_touchesAction (w : wX) (m : mR) (c : Nat → Option am_C) (N D : Nat) (hm : Cn m) (v1 : Int) (v2 : Int) (q1 : R32 v1) (q2 : R32 v2) : PC w D 294 [.ref 189, .int (i32 v1), .int (i32 v2)] (mhp m c, N) (QS (FR0 c N) (rf_touchesAction v1 v2 m)) := by
  refine Pc_of (fun D bb => ?_) D
  unfold rf_touchesAction
  show PP bb w D pm_294 (0, [(0, .ref 189), (1, .int (i32 v1)), (2, .int (i32 v2))], [], (mhp (mO m [] []) c, N), 0, 0) _
  refine P_gf 4 (.ref 269) rfl rfl rfl rfl rfl rfl ?_
  refine P_ld 5 (.int (i32 v2)) rfl (fun _ => rfl) ?_
  refine P_iald2 6 109 (m.2 109) rfl rfl rfl q2 rfl ?_
  refine P_sto 7 [(3, .int (i32 ((m.2 109) v2))), (0, .ref 189), (1, .int (i32 v1)), (2, .int (i32 v2))] rfl (fun _ => rfl) ?_
  refine P_lv (b := [(0, .ref 189), (1, .int (i32 v1)), (2, .int (i32 v2)), (3, .int (i32 ((m.2 109) v2)))]) rfl rfl ⟨rfl, rfl, rfl, rfl, trivial⟩ ?_
  refine P_bnd ?_
  refine P_whl (fun bb Q2 H1 H2 s9 j9 hs9 => dh_touchesAction_7 w c N D v1 v2 q1 q2 bb Q2 H1 H2 s9 j9 hs9) bb (fun e7 j q8 => ?_) ((m.2 109) v2, m) (jk []) ⟨(rE_i (Cn_a hm 109) rfl _), hm⟩
  have q9 := q8
  show PP bb w D pm_294 (36, [(0, .ref 189), (1, .int (i32 (j 1))), (2, .int (i32 (j 2))), (3, .int (i32 (j 3)))], [], (mhp (mO e7 [] []) c, N), 0, 0) (QS _ (some (0, e7)))
  exact P_re0 rfl rfl q9
end X26N
