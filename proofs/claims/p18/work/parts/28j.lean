noncomputable section X28J
def kfl_fm_atom_220 (m : mR) : Option (Int × Int × mR) :=
  some (0, 0, m)
theorem dg_fm_atom_220 (w : wX) (c : Nat → Option am_C) (N D : Nat) (bb : Nat) (m : mR) (hm : KCn m) (j : Nat → Int) : PP bb w D pm_96 (220, [(0, .ref 181), (1, .int (i32 (j 1))), (2, .int (i32 (j 2))), (3, .int (i32 (j 3)))], [], (khp m c, N), 0, 0) (QS (FX0 c N) (kfl_fm_atom_220 m)) := by
  unfold kfl_fm_atom_220
  show PP bb w D pm_96 (220, [(0, .ref 181), (1, .int (i32 (j 1))), (2, .int (i32 (j 2))), (3, .int (i32 (j 3)))], [], (khp (mO m [] []) c, N), 0, 0) _
  refine P_goto 230 rfl (fun _ => rfl) ?_
  exact P_rx0 rfl rfl hm
def kf_fm_atom (m : mR) : Option (Int × Int × mR) :=
  if m.1 206 = 257 then
    bnd (kf_tx_advance m) fun y35 =>
    if y35.1 = 0 then
      bnd (kf_fm_add 257 0 0 64 (m.1 207) y35.2.2) fun y38 =>
      some (0, 0, (mO y38.2 [] [(24, upI (y38.2.2 24) y38.1 (m.1 208))]))
    else
      some (y35.1, 0, y35.2.2)
  else
    if m.1 206 = 329 then
      bnd (kf_tx_advance m) fun y26 =>
      if y26.1 = 0 then
        bnd (kf_tx_known 301 y26.2.2) fun y29 =>
        if y29.1 = 0 then
          bnd (kf_fm_add 400 (cut (y29.2.1 * 17)) 0 1 (m.1 207) y29.2.2) fun y32 =>
          some (0, 0, y32.2)
        else
          some (y29.1, 0, y29.2.2)
      else
        some (y26.1, 0, y26.2.2)
    else
      if m.1 206 = 256 then
        bnd (kf_ac_parameterOf (m.1 231) (m.1 209) (m.1 210) m) fun y7 =>
        if y7 = (-1) then
          bnd (kf_fm_placeSlot m) fun y11 =>
          if y11.1 = 0 then
            bnd (kf_pr_slotWidth y11.2.1 y11.2.2) fun y14 =>
            bnd (kf_fm_add 400 y11.2.1 0 y14 (m.1 207) y11.2.2) fun y17 =>
            kfl_fm_atom_220 y17.2
          else
            some (y11.1, 0, y11.2.2)
        else
          bnd (kf_tx_advance m) fun y20 =>
          if y20.1 = 0 then
            bnd (kf_fm_add 401 y7 0 ((m.2 40) (cut ((cut ((m.1 231) * 4)) + y7))) (m.1 207) y20.2.2) fun y23 =>
            kfl_fm_atom_220 y23.2
          else
            some (y20.1, 0, y20.2.2)
      else
        bnd (kf_tx_refuse m) fun y4 =>
        if y4.1 = 0 then
          some (0, 0, y4.2.2)
        else
          some (y4.1, 0, y4.2.2)
theorem D_fm_atom (w : wX) (m : mR) (c : Nat → Option am_C) (N D : Nat) (hm : KCn m) : PC w D 96 [.ref 181] (khp m c, N) (QS (FX0 c N) (kf_fm_atom m)) := by
  refine Pc_of (fun D bb => ?_) D
  unfold kf_fm_atom
  show PP bb w D pm_96 (0, [(0, .ref 181)], [], (khp (mO m [] []) c, N), 0, 0) _
  refine P_ld 1 (.ref 181) rfl (fun _ => rfl) ?_
  refine PK_gf 4 (.ref 6) rfl rfl kd_181 rfl rfl rfl ?_
  refine PK_gf 7 (.int (i32 (m.1 207))) rfl rfl kd_6 rfl rfl rfl ?_
  refine P_sto 8 [(1, .int (i32 (m.1 207))), (0, .ref 181)] rfl (fun _ => rfl) ?_
  refine P_ld 9 (.ref 181) rfl (fun _ => rfl) ?_
  refine PK_gf 12 (.ref 6) rfl rfl kd_181 rfl rfl rfl ?_
  refine PK_gf 15 (.int (i32 (m.1 206))) rfl rfl kd_6 rfl rfl rfl ?_
  refine P_ld 18 (.int (i32 257)) rfl (fun _ => rfl) ?_
  refine P_icE 60 21 rfl rfl rfl (KCn_i hm 206 rfl) (l32 257 rfl) rfl (fun h1 => ?_) (fun h1 => ?_)
  · skip
    refine P_ld 22 (.ref 181) rfl (fun _ => rfl) ?_
    refine PK_gf 25 (.ref 6) rfl rfl kd_181 rfl rfl rfl ?_
    refine PK_gf 28 (.long (i64 (m.1 208))) rfl rfl kd_6 rfl rfl rfl ?_
    refine P_sto 29 [(2, .long (i64 (m.1 208))), (1, .int (i32 (m.1 207))), (0, .ref 181)] rfl (fun _ => rfl) ?_
    refine P_ld 30 (.ref 181) rfl (fun _ => rfl) ?_
    refine PK_gf 33 (.ref 6) rfl rfl kd_181 rfl rfl rfl ?_
    refine P_cx0 36 50 [.ref 6] [] rfl (fun _ => rfl) rfl rfl (D_tx_advance w m c N D hm) (fun y x hm e => ⟨_, rfl, hm, Or.inr ⟨x, e, rfl⟩⟩) (fun y35 n37 => ?_)
    refine P_ld 37 (.ref 181) rfl (fun _ => rfl) ?_
    refine PK_gf 40 (.ref 22) rfl rfl kd_181 rfl rfl rfl ?_
    refine PK_gf 43 (.ref 29) rfl rfl kd_22 rfl rfl rfl ?_
    refine P_ld 44 (.ref 181) rfl (fun _ => rfl) ?_
    refine P_ld 47 (.int (i32 257)) rfl (fun _ => rfl) ?_
    refine P_ld 48 (.int (i32 0)) rfl (fun _ => rfl) ?_
    refine P_ld 49 (.int (i32 0)) rfl (fun _ => rfl) ?_
    refine P_ld 51 (.int (i32 64)) rfl (fun _ => rfl) ?_
    refine P_ld 52 (.int (i32 (m.1 207))) rfl (fun _ => rfl) ?_
    refine P_ck1 55 97 [.ref 181, .int (i32 257), .int (i32 0), .int (i32 0), .int (i32 64), .int (i32 (m.1 207))] [.ref 29] rfl (fun _ => rfl) rfl (D_fm_add w y35.2.2 c N D n37 257 0 0 64 (m.1 207) (l32 257 rfl) (l32 0 rfl) (l32 0 rfl) (l32 64 rfl) (KCn_i hm 207 rfl)) (fun y38 h39 n40 => ?_)
    refine P_ld 56 (.long (i64 (m.1 208))) rfl (fun _ => rfl) ?_
    refine PK_last2 (a' := [(24, upI (y38.2.2 24) y38.1 (m.1 208))]) 57 24 (y38.2.2 24) rfl rfl rfl h39 rfl rfl ?_
    refine P_goto 230 rfl (fun _ => rfl) ?_
    exact P_rx0 rfl rfl (KCn_mO n40 rfl rfl trivial ⟨(kE_ul (KCn_a n40 24) rfl (KCn_l hm 208 rfl)), trivial⟩)
  · skip
    refine P_ld 61 (.ref 181) rfl (fun _ => rfl) ?_
    refine PK_gf 64 (.ref 6) rfl rfl kd_181 rfl rfl rfl ?_
    refine PK_gf 67 (.int (i32 (m.1 206))) rfl rfl kd_6 rfl rfl rfl ?_
    refine P_ld 70 (.int (i32 329)) rfl (fun _ => rfl) ?_
    refine P_icE 107 73 rfl rfl rfl (KCn_i hm 206 rfl) (l32 329 rfl) rfl (fun h2 => ?_) (fun h2 => ?_)
    · skip
      refine P_ld 74 (.ref 181) rfl (fun _ => rfl) ?_
      refine PK_gf 77 (.ref 6) rfl rfl kd_181 rfl rfl rfl ?_
      refine P_cx0 80 50 [.ref 6] [] rfl (fun _ => rfl) rfl rfl (D_tx_advance w m c N D hm) (fun y x hm e => ⟨_, rfl, hm, Or.inr ⟨x, e, rfl⟩⟩) (fun y26 n28 => ?_)
      refine P_ld 81 (.ref 181) rfl (fun _ => rfl) ?_
      refine P_ld 84 (.int (i32 400)) rfl (fun _ => rfl) ?_
      refine P_ld 85 (.ref 181) rfl (fun _ => rfl) ?_
      refine PK_gf 88 (.ref 6) rfl rfl kd_181 rfl rfl rfl ?_
      refine P_ld 91 (.int (i32 301)) rfl (fun _ => rfl) ?_
      refine P_cx1 94 83 [.ref 6, .int (i32 301)] [.int (i32 400), .ref 181] rfl (fun _ => rfl) rfl rfl (D_tx_known w y26.2.2 c N D n28 301 (l32 301 rfl)) (fun y x hm e => ⟨_, rfl, hm, Or.inr ⟨x, e, rfl⟩⟩) (fun y29 h30 n31 => ?_)
      refine P_ld 96 (.int (i32 17)) rfl (fun _ => rfl) ?_
      refine P_op 97 (cut (y29.2.1 * 17)) _ rfl (fun _ => rfl) o_mul ?_
      refine P_ld 98 (.int (i32 0)) rfl (fun _ => rfl) ?_
      refine P_ld 99 (.int (i32 1)) rfl (fun _ => rfl) ?_
      refine P_ld 100 (.int (i32 (m.1 207))) rfl (fun _ => rfl) ?_
      refine P_ck1 103 97 [.ref 181, .int (i32 400), .int (i32 (cut (y29.2.1 * 17))), .int (i32 0), .int (i32 1), .int (i32 (m.1 207))] [] rfl (fun _ => rfl) rfl (D_fm_add w y29.2.2 c N D n31 400 (cut (y29.2.1 * 17)) 0 1 (m.1 207) (l32 400 rfl) cut_r (l32 0 rfl) (l32 1 rfl) (KCn_i hm 207 rfl)) (fun y32 h33 n34 => ?_)
      refine P_pop 104 rfl (fun _ => rfl) ?_
      refine P_goto 230 rfl (fun _ => rfl) ?_
      exact P_rx0 rfl rfl n34
    · skip
      refine P_ld 108 (.ref 181) rfl (fun _ => rfl) ?_
      refine PK_gf 111 (.ref 6) rfl rfl kd_181 rfl rfl rfl ?_
      refine PK_gf 114 (.int (i32 (m.1 206))) rfl rfl kd_6 rfl rfl rfl ?_
      refine P_ld 117 (.int (i32 256)) rfl (fun _ => rfl) ?_
      refine P_icE 223 120 rfl rfl rfl (KCn_i hm 206 rfl) (l32 256 rfl) rfl (fun h3 => ?_) (fun h3 => ?_)
      · skip
        refine P_ld 121 (.ref 181) rfl (fun _ => rfl) ?_
        refine PK_gf 124 (.ref 12) rfl rfl kd_181 rfl rfl rfl ?_
        refine PK_gf 127 (.ref 45) rfl rfl kd_12 rfl rfl rfl ?_
        refine P_ld 128 (.ref 181) rfl (fun _ => rfl) ?_
        refine PK_gf 131 (.int (i32 (m.1 231))) rfl rfl kd_181 rfl rfl rfl ?_
        refine P_ld 132 (.ref 181) rfl (fun _ => rfl) ?_
        refine PK_gf 135 (.ref 6) rfl rfl kd_181 rfl rfl rfl ?_
        refine PK_gf 138 (.long (i64 (m.1 209))) rfl rfl kd_6 rfl rfl rfl ?_
        refine P_ld 139 (.ref 181) rfl (fun _ => rfl) ?_
        refine PK_gf 142 (.ref 6) rfl rfl kd_181 rfl rfl rfl ?_
        refine PK_gf 145 (.long (i64 (m.1 210))) rfl rfl kd_6 rfl rfl rfl ?_
        refine P_cp1 148 98 [.ref 45, .int (i32 (m.1 231)), .long (i64 (m.1 209)), .long (i64 (m.1 210))] [] rfl (fun _ => rfl) rfl (D_ac_parameterOf w m c N D hm (m.1 231) (m.1 209) (m.1 210) (KCn_i hm 231 rfl) (KCn_l hm 209 rfl) (KCn_l hm 210 rfl)) (fun y7 h8 => ?_)
        refine P_sto 149 [(2, .int (i32 y7)), (1, .int (i32 (m.1 207))), (0, .ref 181)] rfl (fun _ => rfl) ?_
        refine P_ld 150 (.int (i32 y7)) rfl (fun _ => rfl) ?_
        refine P_ld 151 (.int (i32 (-1))) rfl (fun _ => rfl) ?_
        refine P_icF 196 154 rfl rfl rfl h8 (l32 (-1) rfl) rfl (fun h10 => ?_) (fun h10 => ?_)
        · skip
          refine P_ld 197 (.ref 181) rfl (fun _ => rfl) ?_
          refine P_cx1 200 99 [.ref 181] [] rfl (fun _ => rfl) rfl rfl (D_fm_placeSlot w m c N D hm) (fun y x hm e => ⟨_, rfl, hm, Or.inr ⟨x, e, rfl⟩⟩) (fun y11 h12 n13 => ?_)
          refine P_sto 201 [(3, .int (i32 y11.2.1)), (2, .int (i32 y7)), (1, .int (i32 (m.1 207))), (0, .ref 181)] rfl (fun _ => rfl) ?_
          refine P_ld 202 (.ref 181) rfl (fun _ => rfl) ?_
          refine P_ld 205 (.int (i32 400)) rfl (fun _ => rfl) ?_
          refine P_ld 206 (.int (i32 y11.2.1)) rfl (fun _ => rfl) ?_
          refine P_ld 207 (.int (i32 0)) rfl (fun _ => rfl) ?_
          refine P_ld 208 (.ref 181) rfl (fun _ => rfl) ?_
          refine PK_gf 211 (.ref 12) rfl rfl kd_181 rfl rfl rfl ?_
          refine P_ld 212 (.int (i32 y11.2.1)) rfl (fun _ => rfl) ?_
          refine P_cp1 215 100 [.ref 12, .int (i32 y11.2.1)] [.int (i32 0), .int (i32 y11.2.1), .int (i32 400), .ref 181] rfl (fun _ => rfl) rfl (D_pr_slotWidth w y11.2.2 c N D n13 y11.2.1 h12) (fun y14 h15 => ?_)
          refine P_ld 216 (.int (i32 (m.1 207))) rfl (fun _ => rfl) ?_
          refine P_ck1 219 97 [.ref 181, .int (i32 400), .int (i32 y11.2.1), .int (i32 0), .int (i32 y14), .int (i32 (m.1 207))] [] rfl (fun _ => rfl) rfl (D_fm_add w y11.2.2 c N D n13 400 y11.2.1 0 y14 (m.1 207) (l32 400 rfl) h12 (l32 0 rfl) h15 (KCn_i hm 207 rfl)) (fun y17 h18 n19 => ?_)
          refine P_pop 220 rfl (fun _ => rfl) ?_
          refine P_lv (b := [(0, .ref 181), (1, .int (i32 (m.1 207))), (2, .int (i32 y7)), (3, .int (i32 y11.2.1))]) rfl rfl ⟨rfl, rfl, rfl, rfl, trivial⟩ ?_
          exact dg_fm_atom_220 w c N D bb y17.2 n19 (jk [(1, m.1 207), (2, y7), (3, y11.2.1)])
        · skip
          refine P_ld 155 (.ref 181) rfl (fun _ => rfl) ?_
          refine PK_gf 158 (.ref 12) rfl rfl kd_181 rfl rfl rfl ?_
          refine PK_gf 161 (.ref 45) rfl rfl kd_12 rfl rfl rfl ?_
          refine PK_gf 164 (.ref 47) rfl rfl kd_45 rfl rfl rfl ?_
          refine P_ld 165 (.ref 181) rfl (fun _ => rfl) ?_
          refine PK_gf 168 (.int (i32 (m.1 231))) rfl rfl kd_181 rfl rfl rfl ?_
          refine P_ld 169 (.int (i32 4)) rfl (fun _ => rfl) ?_
          refine P_op 170 (cut ((m.1 231) * 4)) _ rfl (fun _ => rfl) o_mul ?_
          refine P_ld 171 (.int (i32 y7)) rfl (fun _ => rfl) ?_
          refine P_op 172 (cut ((cut ((m.1 231) * 4)) + y7)) _ rfl (fun _ => rfl) o_add ?_
          refine PK_iald2 173 40 (m.2 40) rfl rfl rfl cut_r rfl ?_
          refine P_sto 174 [(3, .int (i32 ((m.2 40) (cut ((cut ((m.1 231) * 4)) + y7))))), (2, .int (i32 y7)), (1, .int (i32 (m.1 207))), (0, .ref 181)] rfl (fun _ => rfl) ?_
          refine P_ld 175 (.ref 181) rfl (fun _ => rfl) ?_
          refine PK_gf 178 (.ref 6) rfl rfl kd_181 rfl rfl rfl ?_
          refine P_cx0 181 50 [.ref 6] [] rfl (fun _ => rfl) rfl rfl (D_tx_advance w m c N D hm) (fun y x hm e => ⟨_, rfl, hm, Or.inr ⟨x, e, rfl⟩⟩) (fun y20 n22 => ?_)
          refine P_ld 182 (.ref 181) rfl (fun _ => rfl) ?_
          refine P_ld 185 (.int (i32 401)) rfl (fun _ => rfl) ?_
          refine P_ld 186 (.int (i32 y7)) rfl (fun _ => rfl) ?_
          refine P_ld 187 (.int (i32 0)) rfl (fun _ => rfl) ?_
          refine P_ld 188 (.int (i32 ((m.2 40) (cut ((cut ((m.1 231) * 4)) + y7))))) rfl (fun _ => rfl) ?_
          refine P_ld 189 (.int (i32 (m.1 207))) rfl (fun _ => rfl) ?_
          refine P_ck1 192 97 [.ref 181, .int (i32 401), .int (i32 y7), .int (i32 0), .int (i32 ((m.2 40) (cut ((cut ((m.1 231) * 4)) + y7)))), .int (i32 (m.1 207))] [] rfl (fun _ => rfl) rfl (D_fm_add w y20.2.2 c N D n22 401 y7 0 ((m.2 40) (cut ((cut ((m.1 231) * 4)) + y7))) (m.1 207) (l32 401 rfl) h8 (l32 0 rfl) (kE_i (KCn_a hm 40) rfl _) (KCn_i hm 207 rfl)) (fun y23 h24 n25 => ?_)
          refine P_pop 193 rfl (fun _ => rfl) ?_
          refine P_goto 220 rfl (fun _ => rfl) ?_
          refine P_lv (b := [(0, .ref 181), (1, .int (i32 (m.1 207))), (2, .int (i32 y7)), (3, .int (i32 ((m.2 40) (cut ((cut ((m.1 231) * 4)) + y7)))))]) rfl rfl ⟨rfl, rfl, rfl, rfl, trivial⟩ ?_
          exact dg_fm_atom_220 w c N D bb y23.2 n25 (jk [(1, m.1 207), (2, y7), (3, (m.2 40) (cut ((cut ((m.1 231) * 4)) + y7)))])
      · skip
        refine P_ld 224 (.ref 181) rfl (fun _ => rfl) ?_
        refine PK_gf 227 (.ref 6) rfl rfl kd_181 rfl rfl rfl ?_
        refine P_cx0 230 76 [.ref 6] [] rfl (fun _ => rfl) rfl rfl (D_tx_refuse w m c N D hm) (fun y x hm e => ⟨_, rfl, hm, Or.inr ⟨x, e, rfl⟩⟩) (fun y4 n6 => ?_)
        exact P_rx0 rfl rfl n6
def cs_fm_whole_24 (s : Int × Int × mR) : Prop := R32 s.1 ∧ R32 s.2.1 ∧ KCn s.2.2
def cx_fm_whole_24 : (Sum (mR) (Int × mR)) → Prop := (sel (fun (e : mR) => KCn e) (fun (e : Int × mR) => False))
def hd_fm_whole_24 (c : Nat → Option am_C) (N : Nat) (s : Int × Int × mR) (j : Nat → Int) : ag_St af_T := (24, [(0, .ref 181), (1, .int (i32 (j 1))), (2, .int (i32 s.1)), (3, .int (i32 s.2.1))], [], (khp s.2.2 c, N), 0, 0)
def ex_fm_whole_24 (c : Nat → Option am_C) (N : Nat) : (Sum (mR) (Int × mR)) → (Nat → Int) → ag_St af_T := (sel (fun (e : mR) (j : Nat → Int) => ((63, [(0, .ref 181), (1, .int (i32 (j 1))), (2, .int (i32 (j 2))), (3, .int (i32 (j 3)))], [], (khp e c, N), 0, 0) : ag_St af_T)) (fun (e : Int × mR) (j : Nat → Int) => ((0, [], [], (khp e.2 c, N), 0, 0) : ag_St af_T)))
def tx_fm_whole_24 (c : Nat → Option am_C) (N : Nat) : (Sum (mR) (Int × mR)) → ag_Re af_T → Prop := (sel (fun (_ : mR) (_ : ag_Re af_T) => False) (fun (e : Int × mR) (r : ag_Re af_T) => ∃ x : Nat, e.1 = x + 1 ∧ KCn e.2 ∧ r = (.inr x, (khp e.2 c, N), 1, 6)))
def kfl_fm_whole_63 (m : mR) : Option (Int × Int × mR) :=
  some (0, (m.2 70) 0, m)
theorem dg_fm_whole_63 (w : wX) (c : Nat → Option am_C) (N D : Nat) (bb : Nat) (m : mR) (hm : KCn m) (j : Nat → Int) : PP bb w D pm_92 (63, [(0, .ref 181), (1, .int (i32 (j 1))), (2, .int (i32 (j 2))), (3, .int (i32 (j 3)))], [], (khp m c, N), 0, 0) (QS (FX1 c N) (kfl_fm_whole_63 m)) := by
  unfold kfl_fm_whole_63
  show PP bb w D pm_92 (63, [(0, .ref 181), (1, .int (i32 (j 1))), (2, .int (i32 (j 2))), (3, .int (i32 (j 3)))], [], (khp (mO m [] []) c, N), 0, 0) _
  refine P_ld 64 (.ref 181) rfl (fun _ => rfl) ?_
  refine PK_gf 67 (.ref 184) rfl rfl kd_181 rfl rfl rfl ?_
  refine P_ld 68 (.int (i32 0)) rfl (fun _ => rfl) ?_
  refine PK_iald2 69 70 (m.2 70) rfl rfl rfl (l32 0 rfl) rfl ?_
  exact P_rx1 rfl (kE_i (KCn_a hm 70) rfl _) hm
def kfl_fm_whole_48 (v3 : Int) (m : mR) : Option (Sum (Int × Int × mR) (Sum (mR) (Int × mR))) :=
  bnd (kf_fm_suffixes m) fun y2 =>
  if y2.1 = 0 then
    bnd (kf_fm_goesOn y2.2.2) fun y5 =>
    if y5.1 = 0 then
      some (.inl (y5.2.1, cut (v3 + 1), y5.2.2))
    else
      some (.inr (.inr (y5.1, y5.2.2)))
  else
    some (.inr (.inr (y2.1, y2.2.2)))
theorem dg_fm_whole_48 (w : wX) (c : Nat → Option am_C) (N D : Nat) (bb : Nat) (v3 : Int) (q3 : R32 v3) (m : mR) (hm : KCn m) (j : Nat → Int) (Q2 : Sum (Int × Int × mR) (Sum (mR) (Int × mR)) → ag_Re af_T → Prop) (H1 : ∀ s j, cs_fm_whole_24 s → PP bb w D pm_92 (hd_fm_whole_24 c N s j) (Q2 (.inl s))) (H2 : ∀ x j, cx_fm_whole_24 x → PP bb w D pm_92 (ex_fm_whole_24 c N x j) (Q2 (.inr x))) (H3 : ∀ x r, tx_fm_whole_24 c N x r → Q2 (.inr x) r) : PP bb w D pm_92 (48, [(0, .ref 181), (1, .int (i32 (j 1))), (2, .int (i32 (j 2))), (3, .int (i32 v3))], [], (khp m c, N), 0, 0) (QS Q2 (kfl_fm_whole_48 v3 m)) := by
  unfold kfl_fm_whole_48
  show PP bb w D pm_92 (48, [(0, .ref 181), (1, .int (i32 (j 1))), (2, .int (i32 (j 2))), (3, .int (i32 v3))], [], (khp (mO m [] []) c, N), 0, 0) _
  refine P_ld 49 (.ref 181) rfl (fun _ => rfl) ?_
  refine P_cx0 52 102 [.ref 181] [] rfl (fun _ => rfl) rfl rfl (D_fm_suffixes w m c N D hm) (fun y x hm e => ⟨_, rfl, H3 _ _ ⟨x, e, hm, rfl⟩⟩) (fun y2 n4 => ?_)
  refine P_ld 53 (.ref 181) rfl (fun _ => rfl) ?_
  refine P_cx1 56 103 [.ref 181] [] rfl (fun _ => rfl) rfl rfl (D_fm_goesOn w y2.2.2 c N D n4) (fun y x hm e => ⟨_, rfl, H3 _ _ ⟨x, e, hm, rfl⟩⟩) (fun y5 h6 n7 => ?_)
  refine P_sto 57 [(2, .int (i32 y5.2.1)), (0, .ref 181), (1, .int (i32 (j 1))), (3, .int (i32 v3))] rfl (fun _ => rfl) ?_
  refine P_inc 60 [(3, .int (i32 (cut (v3 + 1)))), (2, .int (i32 y5.2.1)), (0, .ref 181), (1, .int (i32 (j 1)))] rfl rfl (by decide) rfl rfl ?_
  refine P_goto 24 rfl (fun _ => rfl) ?_
  refine P_some ?_
  refine P_lv (b := [(0, .ref 181), (1, .int (i32 (j 1))), (2, .int (i32 y5.2.1)), (3, .int (i32 (cut (v3 + 1))))]) rfl rfl ⟨rfl, rfl, rfl, rfl, trivial⟩ ?_
  exact H1 (y5.2.1, cut (v3 + 1), y5.2.2) (jk [(1, j 1)]) ⟨h6, cut_r, n7⟩
def kfb_fm_whole_24 (s : Int × Int × mR) : Option (Sum (Int × Int × mR) (Sum (mR) (Int × mR))) :=
  if (4000 : Int) < s.2.1 then
    some (.inr (.inl s.2.2))
  else
    if s.1 = 0 then
      some (.inr (.inl s.2.2))
    else
      if s.1 = 1 then
        bnd (kf_fm_prefixes s.2.2) fun y12 =>
        if y12.1 = 0 then
          bnd (kf_fm_atom y12.2.2) fun y15 =>
          if y15.1 = 0 then
            kfl_fm_whole_48 s.2.1 y15.2.2
          else
            some (.inr (.inr (y15.1, y15.2.2)))
        else
          some (.inr (.inr (y12.1, y12.2.2)))
      else
        kfl_fm_whole_48 s.2.1 s.2.2
theorem dh_fm_whole_24 (w : wX) (c : Nat → Option am_C) (N D : Nat) (bb : Nat) (Q2 : Sum (Int × Int × mR) (Sum (mR) (Int × mR)) → ag_Re af_T → Prop) (H1 : ∀ s j, cs_fm_whole_24 s → PP bb w D pm_92 (hd_fm_whole_24 c N s j) (Q2 (.inl s))) (H2 : ∀ x j, cx_fm_whole_24 x → PP bb w D pm_92 (ex_fm_whole_24 c N x j) (Q2 (.inr x))) (H3 : ∀ x r, tx_fm_whole_24 c N x r → Q2 (.inr x) r) (s : Int × Int × mR) (j : Nat → Int) (hs : cs_fm_whole_24 s) : PP (bb + 1) w D pm_92 (hd_fm_whole_24 c N s j) (QS Q2 (kfb_fm_whole_24 s)) := by
  obtain ⟨g2, g3, gm⟩ := hs
  unfold kfb_fm_whole_24
  show PP (bb + 1) w D pm_92 (24, [(0, .ref 181), (1, .int (i32 (j 1))), (2, .int (i32 s.1)), (3, .int (i32 s.2.1))], [], (khp (mO s.2.2 [] []) c, N), 0, 0) _
  refine P1_ld 25 (.int (i32 s.2.1)) rfl (fun _ => rfl) ?_
  refine P_ld 28 (.int (i32 4000)) rfl (fun _ => rfl) ?_
  refine P_icF 63 31 rfl rfl rfl g3 (l32 4000 rfl) rfl (fun h9 => ?_) (fun h9 => ?_)
  · skip
    refine P_some ?_
    exact H2 (.inl s.2.2) (jk [(1, j 1), (2, s.1), (3, s.2.1)]) gm
  · skip
    refine P_ld 32 (.int (i32 s.1)) rfl (fun _ => rfl) ?_
    refine P_ifF 63 35 rfl rfl rfl g2 rfl (fun h10 => ?_) (fun h10 => ?_)
    · skip
      refine P_some ?_
      exact H2 (.inl s.2.2) (jk [(1, j 1), (2, s.1), (3, s.2.1)]) gm
    · skip
      refine P_ld 36 (.int (i32 s.1)) rfl (fun _ => rfl) ?_
      refine P_ld 37 (.int (i32 1)) rfl (fun _ => rfl) ?_
      refine P_icE 48 40 rfl rfl rfl g2 (l32 1 rfl) rfl (fun h11 => ?_) (fun h11 => ?_)
      · skip
        refine P_ld 41 (.ref 181) rfl (fun _ => rfl) ?_
        refine P_cx0 44 93 [.ref 181] [] rfl (fun _ => rfl) rfl rfl (D_fm_prefixes w s.2.2 c N D gm) (fun y x hm e => ⟨_, rfl, H3 _ _ ⟨x, e, hm, rfl⟩⟩) (fun y12 n14 => ?_)
        refine P_ld 45 (.ref 181) rfl (fun _ => rfl) ?_
        refine P_cx0 48 96 [.ref 181] [] rfl (fun _ => rfl) rfl rfl (D_fm_atom w y12.2.2 c N D n14) (fun y x hm e => ⟨_, rfl, H3 _ _ ⟨x, e, hm, rfl⟩⟩) (fun y15 n17 => ?_)
        exact dg_fm_whole_48 w c N D bb s.2.1 g3 y15.2.2 n17 (jk [(1, j 1), (2, s.1)]) Q2 H1 H2 H3
      · skip
        exact dg_fm_whole_48 w c N D bb s.2.1 g3 s.2.2 gm (jk [(1, j 1), (2, s.1)]) Q2 H1 H2 H3
def kf_fm_whole (v1 : Int) (m : mR) : Option (Int × Int × mR) :=
  bnd (whl kfb_fm_whole_24 (1, 0, (mO m [(228, 0), (229, 0), (230, 1), (231, v1)] []))) (sel
    (fun e18 : mR =>
      kfl_fm_whole_63 e18)
    (fun e21 : Int × mR =>
      some (e21.1, 0, e21.2)))
theorem D_fm_whole (w : wX) (m : mR) (c : Nat → Option am_C) (N D : Nat) (hm : KCn m) (v1 : Int) (q1 : R32 v1) : PC w D 92 [.ref 181, .int (i32 v1)] (khp m c, N) (QS (FX1 c N) (kf_fm_whole v1 m)) := by
  refine Pc_of (fun D bb => ?_) D
  unfold kf_fm_whole
  show PP bb w D pm_92 (0, [(0, .ref 181), (1, .int (i32 v1))], [], (khp (mO m [] []) c, N), 0, 0) _
  refine P_ld 1 (.ref 181) rfl (fun _ => rfl) ?_
  refine P_ld 2 (.int (i32 v1)) rfl (fun _ => rfl) ?_
  refine PK_pf (l' := [(231, v1)]) 5 v1 rfl rfl kd_181 rfl rfl rfl rfl rfl rfl rfl ?_
  refine P_ld 6 (.ref 181) rfl (fun _ => rfl) ?_
  refine P_ld 7 (.int (i32 0)) rfl (fun _ => rfl) ?_
  refine PK_pf (l' := [(228, 0), (231, v1)]) 10 0 rfl rfl kd_181 rfl rfl rfl rfl rfl rfl rfl ?_
  refine P_ld 11 (.ref 181) rfl (fun _ => rfl) ?_
  refine P_ld 12 (.int (i32 0)) rfl (fun _ => rfl) ?_
  refine PK_pf (l' := [(228, 0), (229, 0), (231, v1)]) 15 0 rfl rfl kd_181 rfl rfl rfl rfl rfl rfl rfl ?_
  refine P_ld 16 (.ref 181) rfl (fun _ => rfl) ?_
  refine P_ld 17 (.int (i32 1)) rfl (fun _ => rfl) ?_
  refine PK_pf (l' := [(228, 0), (229, 0), (230, 1), (231, v1)]) 20 1 rfl rfl kd_181 rfl rfl rfl rfl rfl rfl rfl ?_
  refine P_ld 21 (.int (i32 1)) rfl (fun _ => rfl) ?_
  refine P_sto 22 [(2, .int (i32 1)), (0, .ref 181), (1, .int (i32 v1))] rfl (fun _ => rfl) ?_
  refine P_ld 23 (.int (i32 0)) rfl (fun _ => rfl) ?_
  refine P_sto 24 [(3, .int (i32 0)), (2, .int (i32 1)), (0, .ref 181), (1, .int (i32 v1))] rfl (fun _ => rfl) ?_
  refine P_lv (b := [(0, .ref 181), (1, .int (i32 v1)), (2, .int (i32 1)), (3, .int (i32 0))]) rfl rfl ⟨rfl, rfl, rfl, rfl, trivial⟩ ?_
  refine P_bnd ?_
  refine P_whlx (TX := tx_fm_whole_24 c N) (fun bb Q2 H1 H2 H3 s9 j9 hs9 => dh_fm_whole_24 w c N D bb Q2 H1 H2 H3 s9 j9 hs9) bb (fun x r hr => ?_) (fun x0 j hx0 => ?_) (1, 0, (mO m [(228, 0), (229, 0), (230, 1), (231, v1)] [])) (jk [(1, v1)]) ⟨(l32 1 rfl), (l32 0 rfl), (KCn_mO hm rfl rfl ⟨(kV_i rfl (l32 0 rfl)), (kV_i rfl (l32 0 rfl)), (kV_i rfl (l32 1 rfl)), (kV_i rfl q1), trivial⟩ trivial)⟩
  · skip
    cases x with
    | inl e => exact False.elim hr
    | inr x =>
      obtain ⟨x9, e9, k9, rfl⟩ := hr
      exact ⟨_, rfl, k9, Or.inr ⟨x9, e9, rfl⟩⟩
  cases x0 with
  | inl e18 =>
    have q19 := hx0
    have q20 := q19
    show PP bb w D pm_92 (63, [(0, .ref 181), (1, .int (i32 (j 1))), (2, .int (i32 (j 2))), (3, .int (i32 (j 3)))], [], (khp (mO e18 [] []) c, N), 0, 0) (QS _ (kfl_fm_whole_63 e18))
    exact dg_fm_whole_63 w c N D bb e18 q20 (jk [(1, j 1), (2, j 2), (3, j 3)])
  | inr e21 =>
    have q22 := hx0
    have q22 := q22
    exact False.elim q22
def kf_fm_mustFit (v1 : Int) (v2 : Int) (m : mR) : Option (Int × Int × mR) :=
  bnd (kf_nd_fits v1 v2 m) fun y1 =>
  if y1.1 = 0 then
    bnd (kf_tx_fail 7 ((y1.2.2 23) v1) y1.2) fun y5 =>
    if y5.1 = 0 then
      some (0, 0, y5.2.2)
    else
      some (y5.1, 0, y5.2.2)
  else
    some (0, 0, y1.2)
theorem D_fm_mustFit (w : wX) (m : mR) (c : Nat → Option am_C) (N D : Nat) (hm : KCn m) (v1 : Int) (v2 : Int) (q1 : R32 v1) (q2 : R32 v2) : PC w D 126 [.ref 181, .int (i32 v1), .int (i32 v2)] (khp m c, N) (QS (FX0 c N) (kf_fm_mustFit v1 v2 m)) := by
  refine Pc_of (fun D bb => ?_) D
  unfold kf_fm_mustFit
  show PP bb w D pm_126 (0, [(0, .ref 181), (1, .int (i32 v1)), (2, .int (i32 v2))], [], (khp (mO m [] []) c, N), 0, 0) _
  refine P_ld 1 (.ref 181) rfl (fun _ => rfl) ?_
  refine PK_gf 4 (.ref 22) rfl rfl kd_181 rfl rfl rfl ?_
  refine P_ld 5 (.int (i32 v1)) rfl (fun _ => rfl) ?_
  refine P_ld 6 (.int (i32 v2)) rfl (fun _ => rfl) ?_
  refine P_ck1 9 107 [.ref 22, .int (i32 v1), .int (i32 v2)] [] rfl (fun _ => rfl) rfl (D_nd_fits w m c N D hm v1 v2 q1 q2) (fun y1 h2 n3 => ?_)
  refine P_ifE 30 12 rfl rfl rfl h2 rfl (fun h4 => ?_) (fun h4 => ?_)
  · skip
    refine P_ld 13 (.ref 181) rfl (fun _ => rfl) ?_
    refine PK_gf 16 (.ref 6) rfl rfl kd_181 rfl rfl rfl ?_
    refine P_ld 18 (.int (i32 7)) rfl (fun _ => rfl) ?_
    refine P_ld 19 (.ref 181) rfl (fun _ => rfl) ?_
    refine PK_gf 22 (.ref 22) rfl rfl kd_181 rfl rfl rfl ?_
    refine PK_gf 25 (.ref 28) rfl rfl kd_22 rfl rfl rfl ?_
    refine P_ld 26 (.int (i32 v1)) rfl (fun _ => rfl) ?_
    refine PK_iald2 27 23 (y1.2.2 23) rfl rfl rfl q1 rfl ?_
    refine P_cx0 30 51 [.ref 6, .int (i32 7), .int (i32 ((y1.2.2 23) v1))] [] rfl (fun _ => rfl) rfl rfl (D_tx_fail w y1.2 c N D n3 7 ((y1.2.2 23) v1) (l32 7 rfl) (kE_i (KCn_a n3 23) rfl _)) (fun y x hm e => ⟨_, rfl, hm, Or.inr ⟨x, e, rfl⟩⟩) (fun y5 n7 => ?_)
    exact P_rx0 rfl rfl n7
  · skip
    exact P_rx0 rfl rfl n3
def kfl_rd_statement_333 (v3 : Int) (m : mR) : Option (Int × Int × mR) :=
  bnd (kf_tx_expect 59 m) fun y1 =>
  if y1.1 = 0 then
    some (0, v3, y1.2.2)
  else
    some (y1.1, 0, y1.2.2)
theorem dg_rd_statement_333 (w : wX) (c : Nat → Option am_C) (N D : Nat) (bb : Nat) (v3 : Int) (q3 : R32 v3) (m : mR) (hm : KCn m) (j : Nat → Int) : PP bb w D pm_122 (333, [(0, .ref 178), (1, .int (i32 (j 1))), (2, .int (i32 (j 2))), (3, .int (i32 v3)), (4, .int (i32 (j 4))), (5, .int (i32 (j 5)))], [], (khp m c, N), 0, 0) (QS (FX1 c N) (kfl_rd_statement_333 v3 m)) := by
  unfold kfl_rd_statement_333
  show PP bb w D pm_122 (333, [(0, .ref 178), (1, .int (i32 (j 1))), (2, .int (i32 (j 2))), (3, .int (i32 v3)), (4, .int (i32 (j 4))), (5, .int (i32 (j 5)))], [], (khp (mO m [] []) c, N), 0, 0) _
  refine P_ld 334 (.ref 178) rfl (fun _ => rfl) ?_
  refine PK_gf 337 (.ref 6) rfl rfl kd_178 rfl rfl rfl ?_
  refine P_ld 339 (.int (i32 59)) rfl (fun _ => rfl) ?_
  refine P_cx0 342 78 [.ref 6, .int (i32 59)] [] rfl (fun _ => rfl) rfl rfl (D_tx_expect w m c N D hm 59 (l32 59 rfl)) (fun y x hm e => ⟨_, rfl, hm, Or.inr ⟨x, e, rfl⟩⟩) (fun y1 n3 => ?_)
  refine P_ld 343 (.int (i32 v3)) rfl (fun _ => rfl) ?_
  exact P_rx1 rfl q3 n3
def kfl_rd_statement_314 (v2 : Int) (v3 : Int) (m : mR) : Option (Int × Int × mR) :=
  if v2 = 326 then
    kfl_rd_statement_333 v3 (mO m [] [(46, upI (m.2 46) v3 220)])
  else
    kfl_rd_statement_333 v3 m
theorem dg_rd_statement_314 (w : wX) (c : Nat → Option am_C) (N D : Nat) (bb : Nat) (v2 : Int) (v3 : Int) (q2 : R32 v2) (q3 : R32 v3) (m : mR) (hm : KCn m) (j : Nat → Int) : PP bb w D pm_122 (314, [(0, .ref 178), (1, .int (i32 (j 1))), (2, .int (i32 v2)), (3, .int (i32 v3)), (4, .int (i32 (j 4))), (5, .int (i32 (j 5)))], [], (khp m c, N), 0, 0) (QS (FX1 c N) (kfl_rd_statement_314 v2 v3 m)) := by
  unfold kfl_rd_statement_314
  show PP bb w D pm_122 (314, [(0, .ref 178), (1, .int (i32 (j 1))), (2, .int (i32 v2)), (3, .int (i32 v3)), (4, .int (i32 (j 4))), (5, .int (i32 (j 5)))], [], (khp (mO m [] []) c, N), 0, 0) _
  refine P_ld 315 (.int (i32 v2)) rfl (fun _ => rfl) ?_
  refine P_ld 318 (.int (i32 326)) rfl (fun _ => rfl) ?_
  refine P_icE 333 321 rfl rfl rfl q2 (l32 326 rfl) rfl (fun h4 => ?_) (fun h4 => ?_)
  · skip
    refine P_ld 322 (.ref 178) rfl (fun _ => rfl) ?_
    refine PK_gf 325 (.ref 45) rfl rfl kd_178 rfl rfl rfl ?_
    refine PK_gf 328 (.ref 53) rfl rfl kd_45 rfl rfl rfl ?_
    refine P_ld 329 (.int (i32 v3)) rfl (fun _ => rfl) ?_
    refine P_ld 332 (.int (i32 220)) rfl (fun _ => rfl) ?_
    refine PK_iast2 (a' := [(46, upI (m.2 46) v3 220)]) 333 46 (m.2 46) rfl rfl rfl q3 rfl rfl ?_
    exact dg_rd_statement_333 w c N D bb v3 q3 (mO m [] [(46, upI (m.2 46) v3 220)]) (KCn_mO hm rfl rfl trivial ⟨(kE_ui (KCn_a hm 46) rfl (l32 220 rfl)), trivial⟩) (jk [(1, j 1), (2, v2), (4, j 4), (5, j 5)])
  · skip
    exact dg_rd_statement_333 w c N D bb v3 q3 m hm (jk [(1, j 1), (2, v2), (4, j 4), (5, j 5)])
def kfl_rd_statement_292 (v2 : Int) (v3 : Int) (m : mR) : Option (Int × Int × mR) :=
  bnd (kf_tx_known 301 m) fun y5 =>
  if y5.1 = 0 then
    kfl_rd_statement_314 v2 v3 (mO y5.2.2 [] [(46, upI (y5.2.2.2 46) v3 (cut (y5.2.1 * 17)))])
  else
    some (y5.1, 0, y5.2.2)
theorem dg_rd_statement_292 (w : wX) (c : Nat → Option am_C) (N D : Nat) (bb : Nat) (v2 : Int) (v3 : Int) (q2 : R32 v2) (q3 : R32 v3) (m : mR) (hm : KCn m) (j : Nat → Int) : PP bb w D pm_122 (292, [(0, .ref 178), (1, .int (i32 (j 1))), (2, .int (i32 v2)), (3, .int (i32 v3)), (4, .int (i32 (j 4))), (5, .int (i32 (j 5)))], [], (khp m c, N), 0, 0) (QS (FX1 c N) (kfl_rd_statement_292 v2 v3 m)) := by
  unfold kfl_rd_statement_292
  show PP bb w D pm_122 (292, [(0, .ref 178), (1, .int (i32 (j 1))), (2, .int (i32 v2)), (3, .int (i32 v3)), (4, .int (i32 (j 4))), (5, .int (i32 (j 5)))], [], (khp (mO m [] []) c, N), 0, 0) _
  refine P_ld 293 (.ref 178) rfl (fun _ => rfl) ?_
  refine PK_gf 296 (.ref 45) rfl rfl kd_178 rfl rfl rfl ?_
  refine PK_gf 299 (.ref 53) rfl rfl kd_45 rfl rfl rfl ?_
  refine P_ld 300 (.int (i32 v3)) rfl (fun _ => rfl) ?_
  refine P_ld 301 (.ref 178) rfl (fun _ => rfl) ?_
  refine PK_gf 304 (.ref 6) rfl rfl kd_178 rfl rfl rfl ?_
  refine P_ld 307 (.int (i32 301)) rfl (fun _ => rfl) ?_
  refine P_cx1 310 83 [.ref 6, .int (i32 301)] [.int (i32 v3), .ref 53] rfl (fun _ => rfl) rfl rfl (D_tx_known w m c N D hm 301 (l32 301 rfl)) (fun y x hm e => ⟨_, rfl, hm, Or.inr ⟨x, e, rfl⟩⟩) (fun y5 h6 n7 => ?_)
  refine P_ld 312 (.int (i32 17)) rfl (fun _ => rfl) ?_
  refine P_op 313 (cut (y5.2.1 * 17)) _ rfl (fun _ => rfl) o_mul ?_
  refine PK_iast2 (a' := [(46, upI (y5.2.2.2 46) v3 (cut (y5.2.1 * 17)))]) 314 46 (y5.2.2.2 46) rfl rfl rfl q3 rfl rfl ?_
  exact dg_rd_statement_314 w c N D bb v2 v3 q2 q3 (mO y5.2.2 [] [(46, upI (y5.2.2.2 46) v3 (cut (y5.2.1 * 17)))]) (KCn_mO n7 rfl rfl trivial ⟨(kE_ui (KCn_a n7 46) rfl cut_r), trivial⟩) (jk [(1, j 1), (4, j 4), (5, j 5)])
def kfl_rd_statement_278 (v2 : Int) (v3 : Int) (m : mR) : Option (Int × Int × mR) :=
  if v2 = 324 then
    kfl_rd_statement_292 v2 v3 m
  else
    if v2 = 325 then
      kfl_rd_statement_292 v2 v3 m
    else
      kfl_rd_statement_314 v2 v3 m
theorem dg_rd_statement_278 (w : wX) (c : Nat → Option am_C) (N D : Nat) (bb : Nat) (v2 : Int) (v3 : Int) (q2 : R32 v2) (q3 : R32 v3) (m : mR) (hm : KCn m) (j : Nat → Int) : PP bb w D pm_122 (278, [(0, .ref 178), (1, .int (i32 (j 1))), (2, .int (i32 v2)), (3, .int (i32 v3)), (4, .int (i32 (j 4))), (5, .int (i32 (j 5)))], [], (khp m c, N), 0, 0) (QS (FX1 c N) (kfl_rd_statement_278 v2 v3 m)) := by
  unfold kfl_rd_statement_278
  show PP bb w D pm_122 (278, [(0, .ref 178), (1, .int (i32 (j 1))), (2, .int (i32 v2)), (3, .int (i32 v3)), (4, .int (i32 (j 4))), (5, .int (i32 (j 5)))], [], (khp (mO m [] []) c, N), 0, 0) _
  refine P_ld 279 (.int (i32 v2)) rfl (fun _ => rfl) ?_
  refine P_ld 282 (.int (i32 324)) rfl (fun _ => rfl) ?_
  refine P_icF 292 285 rfl rfl rfl q2 (l32 324 rfl) rfl (fun h8 => ?_) (fun h8 => ?_)
  · skip
    exact dg_rd_statement_292 w c N D bb v2 v3 q2 q3 m hm (jk [(1, j 1), (4, j 4), (5, j 5)])
  · skip
    refine P_ld 286 (.int (i32 v2)) rfl (fun _ => rfl) ?_
    refine P_ld 289 (.int (i32 325)) rfl (fun _ => rfl) ?_
    refine P_icE 314 292 rfl rfl rfl q2 (l32 325 rfl) rfl (fun h9 => ?_) (fun h9 => ?_)
    · skip
      exact dg_rd_statement_292 w c N D bb v2 v3 q2 q3 m hm (jk [(1, j 1), (4, j 4), (5, j 5)])
    · skip
      exact dg_rd_statement_314 w c N D bb v2 v3 q2 q3 m hm (jk [(1, j 1), (4, j 4), (5, j 5)])
def kfl_rd_statement_222 (v1 : Int) (v2 : Int) (v3 : Int) (u0 : Int) (m : mR) : Option (Int × Int × mR) :=
  bnd (kf_fm_whole v1 (mO m [] [(50, upI (m.2 50) v3 (m.1 220))])) fun y10 =>
  if y10.1 = 0 then
    bnd (kf_fm_mustFit ((upI (y10.2.2.2 51) v3 y10.2.1) v3) u0 (mO y10.2.2 [] [(51, upI (y10.2.2.2 51) v3 y10.2.1)])) fun y13 =>
    if y13.1 = 0 then
      kfl_rd_statement_278 v2 v3 y13.2.2
    else
      some (y13.1, 0, y13.2.2)
  else
    some (y10.1, 0, y10.2.2)
theorem dg_rd_statement_222 (w : wX) (c : Nat → Option am_C) (N D : Nat) (bb : Nat) (v1 : Int) (v2 : Int) (v3 : Int) (u0 : Int) (q1 : R32 v1) (q2 : R32 v2) (q3 : R32 v3) (r0 : R32 u0) (m : mR) (hm : KCn m) (j : Nat → Int) : PP bb w D pm_122 (222, [(0, .ref 178), (1, .int (i32 v1)), (2, .int (i32 v2)), (3, .int (i32 v3)), (4, .int (i32 (j 4)))], [.int (i32 u0)], (khp m c, N), 0, 0) (QS (FX1 c N) (kfl_rd_statement_222 v1 v2 v3 u0 m)) := by
  unfold kfl_rd_statement_222
  show PP bb w D pm_122 (222, [(0, .ref 178), (1, .int (i32 v1)), (2, .int (i32 v2)), (3, .int (i32 v3)), (4, .int (i32 (j 4)))], [.int (i32 u0)], (khp (mO m [] []) c, N), 0, 0) _
  refine P_sto 224 [(5, .int (i32 u0)), (0, .ref 178), (1, .int (i32 v1)), (2, .int (i32 v2)), (3, .int (i32 v3)), (4, .int (i32 (j 4)))] rfl (fun _ => rfl) ?_
  refine P_ld 225 (.ref 178) rfl (fun _ => rfl) ?_
  refine PK_gf 228 (.ref 45) rfl rfl kd_178 rfl rfl rfl ?_
  refine PK_gf 231 (.ref 57) rfl rfl kd_45 rfl rfl rfl ?_
  refine P_ld 232 (.int (i32 v3)) rfl (fun _ => rfl) ?_
  refine P_ld 233 (.ref 178) rfl (fun _ => rfl) ?_
  refine PK_gf 236 (.ref 12) rfl rfl kd_178 rfl rfl rfl ?_
  refine PK_gf 239 (.ref 22) rfl rfl kd_12 rfl rfl rfl ?_
  refine PK_gf 242 (.int (i32 (m.1 220))) rfl rfl kd_22 rfl rfl rfl ?_
  refine PK_iast2 (a' := [(50, upI (m.2 50) v3 (m.1 220))]) 243 50 (m.2 50) rfl rfl rfl q3 rfl rfl ?_
  refine P_ld 244 (.ref 178) rfl (fun _ => rfl) ?_
  refine PK_gf 247 (.ref 45) rfl rfl kd_178 rfl rfl rfl ?_
  refine PK_gf 250 (.ref 58) rfl rfl kd_45 rfl rfl rfl ?_
  refine P_ld 251 (.int (i32 v3)) rfl (fun _ => rfl) ?_
  refine P_ld 252 (.ref 178) rfl (fun _ => rfl) ?_
  refine PK_gf 255 (.ref 181) rfl rfl kd_178 rfl rfl rfl ?_
  refine P_ld 256 (.int (i32 v1)) rfl (fun _ => rfl) ?_
  refine P_cx1 259 92 [.ref 181, .int (i32 v1)] [.int (i32 v3), .ref 58] rfl (fun _ => rfl) rfl rfl (D_fm_whole w (mO m [] [(50, upI (m.2 50) v3 (m.1 220))]) c N D (KCn_mO hm rfl rfl trivial ⟨(kE_ui (KCn_a hm 50) rfl (KCn_i hm 220 rfl)), trivial⟩) v1 q1) (fun y x hm e => ⟨_, rfl, hm, Or.inr ⟨x, e, rfl⟩⟩) (fun y10 h11 n12 => ?_)
  refine PK_iast2 (a' := [(51, upI (y10.2.2.2 51) v3 y10.2.1)]) 260 51 (y10.2.2.2 51) rfl rfl rfl q3 rfl rfl ?_
  refine P_ld 261 (.ref 178) rfl (fun _ => rfl) ?_
  refine PK_gf 264 (.ref 181) rfl rfl kd_178 rfl rfl rfl ?_
  refine P_ld 265 (.ref 178) rfl (fun _ => rfl) ?_
  refine PK_gf 268 (.ref 45) rfl rfl kd_178 rfl rfl rfl ?_
  refine PK_gf 271 (.ref 58) rfl rfl kd_45 rfl rfl rfl ?_
  refine P_ld 272 (.int (i32 v3)) rfl (fun _ => rfl) ?_
  refine PK_iald2 273 51 (upI (y10.2.2.2 51) v3 y10.2.1) rfl rfl rfl q3 rfl ?_
  refine P_ld 275 (.int (i32 u0)) rfl (fun _ => rfl) ?_
  refine P_cx0 278 126 [.ref 181, .int (i32 ((upI (y10.2.2.2 51) v3 y10.2.1) v3)), .int (i32 u0)] [] rfl (fun _ => rfl) rfl rfl (D_fm_mustFit w (mO y10.2.2 [] [(51, upI (y10.2.2.2 51) v3 y10.2.1)]) c N D (KCn_mO n12 rfl rfl trivial ⟨(kE_ui (KCn_a n12 51) rfl h11), trivial⟩) ((upI (y10.2.2.2 51) v3 y10.2.1) v3) u0 (kE_i (kE_ui (KCn_a n12 51) rfl h11) rfl _) r0) (fun y x hm e => ⟨_, rfl, hm, Or.inr ⟨x, e, rfl⟩⟩) (fun y13 n15 => ?_)
  refine P_lv (b := [(0, .ref 178), (1, .int (i32 v1)), (2, .int (i32 v2)), (3, .int (i32 v3)), (4, .int (i32 (j 4))), (5, .int (i32 u0))]) rfl rfl ⟨rfl, rfl, rfl, rfl, rfl, rfl, trivial⟩ ?_
  exact dg_rd_statement_278 w c N D bb v2 v3 q2 q3 y13.2.2 n15 (jk [(1, v1), (4, j 4), (5, u0)])
def kfl_rd_statement_175 (v1 : Int) (v2 : Int) (v3 : Int) (m : mR) : Option (Int × Int × mR) :=
  if v2 = 328 then
    kfl_rd_statement_222 v1 v2 v3 ((m.2 15) ((m.2 47) v3)) m
  else
    bnd (kf_pr_slotWidth ((m.2 46) v3) m) fun y17 =>
    kfl_rd_statement_222 v1 v2 v3 y17 m
theorem dg_rd_statement_175 (w : wX) (c : Nat → Option am_C) (N D : Nat) (bb : Nat) (v1 : Int) (v2 : Int) (v3 : Int) (q1 : R32 v1) (q2 : R32 v2) (q3 : R32 v3) (m : mR) (hm : KCn m) (j : Nat → Int) : PP bb w D pm_122 (175, [(0, .ref 178), (1, .int (i32 v1)), (2, .int (i32 v2)), (3, .int (i32 v3))], [], (khp m c, N), 0, 0) (QS (FX1 c N) (kfl_rd_statement_175 v1 v2 v3 m)) := by
  unfold kfl_rd_statement_175
  show PP bb w D pm_122 (175, [(0, .ref 178), (1, .int (i32 v1)), (2, .int (i32 v2)), (3, .int (i32 v3))], [], (khp (mO m [] []) c, N), 0, 0) _
  refine P_ld 176 (.ref 178) rfl (fun _ => rfl) ?_
  refine PK_gf 179 (.ref 45) rfl rfl kd_178 rfl rfl rfl ?_
  refine PK_gf 182 (.ref 54) rfl rfl kd_45 rfl rfl rfl ?_
  refine P_ld 183 (.int (i32 v3)) rfl (fun _ => rfl) ?_
  refine PK_iald2 184 47 (m.2 47) rfl rfl rfl q3 rfl ?_
  refine P_sto 186 [(4, .int (i32 ((m.2 47) v3))), (0, .ref 178), (1, .int (i32 v1)), (2, .int (i32 v2)), (3, .int (i32 v3))] rfl (fun _ => rfl) ?_
  refine P_ld 187 (.int (i32 v2)) rfl (fun _ => rfl) ?_
  refine P_ld 190 (.int (i32 328)) rfl (fun _ => rfl) ?_
  refine P_icE 206 193 rfl rfl rfl q2 (l32 328 rfl) rfl (fun h16 => ?_) (fun h16 => ?_)
  · skip
    refine P_ld 194 (.ref 178) rfl (fun _ => rfl) ?_
    refine PK_gf 197 (.ref 12) rfl rfl kd_178 rfl rfl rfl ?_
    refine PK_gf 200 (.ref 18) rfl rfl kd_12 rfl rfl rfl ?_
    refine P_ld 202 (.int (i32 ((m.2 47) v3))) rfl (fun _ => rfl) ?_
    refine PK_iald2 203 15 (m.2 15) rfl rfl rfl (kE_i (KCn_a hm 47) rfl _) rfl ?_
    refine P_goto 222 rfl (fun _ => rfl) ?_
    refine P_lv (b := [(0, .ref 178), (1, .int (i32 v1)), (2, .int (i32 v2)), (3, .int (i32 v3)), (4, .int (i32 ((m.2 47) v3)))]) rfl rfl ⟨rfl, rfl, rfl, rfl, rfl, trivial⟩ ?_
    exact dg_rd_statement_222 w c N D bb v1 v2 v3 ((m.2 15) ((m.2 47) v3)) q1 q2 q3 (kE_i (KCn_a hm 15) rfl _) m hm (jk [(4, (m.2 47) v3)])
  · skip
    refine P_ld 207 (.ref 178) rfl (fun _ => rfl) ?_
    refine PK_gf 210 (.ref 12) rfl rfl kd_178 rfl rfl rfl ?_
    refine P_ld 211 (.ref 178) rfl (fun _ => rfl) ?_
    refine PK_gf 214 (.ref 45) rfl rfl kd_178 rfl rfl rfl ?_
    refine PK_gf 217 (.ref 53) rfl rfl kd_45 rfl rfl rfl ?_
    refine P_ld 218 (.int (i32 v3)) rfl (fun _ => rfl) ?_
    refine PK_iald2 219 46 (m.2 46) rfl rfl rfl q3 rfl ?_
    refine P_cp1 222 100 [.ref 12, .int (i32 ((m.2 46) v3))] [] rfl (fun _ => rfl) rfl (D_pr_slotWidth w m c N D hm ((m.2 46) v3) (kE_i (KCn_a hm 46) rfl _)) (fun y17 h18 => ?_)
    refine P_lv (b := [(0, .ref 178), (1, .int (i32 v1)), (2, .int (i32 v2)), (3, .int (i32 v3)), (4, .int (i32 ((m.2 47) v3)))]) rfl rfl ⟨rfl, rfl, rfl, rfl, rfl, trivial⟩ ?_
    exact dg_rd_statement_222 w c N D bb v1 v2 v3 y17 q1 q2 q3 h18 m hm (jk [(4, (m.2 47) v3)])
def kfl_rd_statement_162 (v1 : Int) (v2 : Int) (v3 : Int) (m : mR) : Option (Int × Int × mR) :=
  if v2 = 61 then
    kfl_rd_statement_175 v1 v2 v3 m
  else
    if v2 = 328 then
      kfl_rd_statement_175 v1 v2 v3 m
    else
      kfl_rd_statement_278 v2 v3 m
theorem dg_rd_statement_162 (w : wX) (c : Nat → Option am_C) (N D : Nat) (bb : Nat) (v1 : Int) (v2 : Int) (v3 : Int) (q1 : R32 v1) (q2 : R32 v2) (q3 : R32 v3) (m : mR) (hm : KCn m) (j : Nat → Int) : PP bb w D pm_122 (162, [(0, .ref 178), (1, .int (i32 v1)), (2, .int (i32 v2)), (3, .int (i32 v3))], [], (khp m c, N), 0, 0) (QS (FX1 c N) (kfl_rd_statement_162 v1 v2 v3 m)) := by
  unfold kfl_rd_statement_162
  show PP bb w D pm_122 (162, [(0, .ref 178), (1, .int (i32 v1)), (2, .int (i32 v2)), (3, .int (i32 v3))], [], (khp (mO m [] []) c, N), 0, 0) _
  refine P_ld 163 (.int (i32 v2)) rfl (fun _ => rfl) ?_
  refine P_ld 165 (.int (i32 61)) rfl (fun _ => rfl) ?_
  refine P_icF 175 168 rfl rfl rfl q2 (l32 61 rfl) rfl (fun h20 => ?_) (fun h20 => ?_)
  · skip
    exact dg_rd_statement_175 w c N D bb v1 v2 v3 q1 q2 q3 m hm (jk [])
  · skip
    refine P_ld 169 (.int (i32 v2)) rfl (fun _ => rfl) ?_
    refine P_ld 172 (.int (i32 328)) rfl (fun _ => rfl) ?_
    refine P_icE 278 175 rfl rfl rfl q2 (l32 328 rfl) rfl (fun h21 => ?_) (fun h21 => ?_)
    · skip
      exact dg_rd_statement_175 w c N D bb v1 v2 v3 q1 q2 q3 m hm (jk [])
    · skip
      refine P_lv (b := [(0, .ref 178), (1, .int (i32 v1)), (2, .int (i32 v2)), (3, .int (i32 v3)), (4, .int (i32 0)), (5, .int (i32 0))]) rfl rfl ⟨rfl, rfl, rfl, rfl, trivial⟩ ?_
      exact dg_rd_statement_278 w c N D bb v2 v3 q2 q3 m hm (jk [(1, v1)])
def kfl_rd_statement_103 (v1 : Int) (v2 : Int) (v3 : Int) (m : mR) : Option (Int × Int × mR) :=
  bnd (kf_rd_arrayOf v3 m) fun y22 =>
  if y22.1 = 0 then
    bnd (kf_tx_expect 91 y22.2.2) fun y25 =>
    if y25.1 = 0 then
      bnd (kf_fm_whole v1 (mO y25.2.2 [] [(48, upI (y25.2.2.2 48) v3 (y25.2.2.1 220))])) fun y28 =>
      if y28.1 = 0 then
        bnd (kf_tx_expect 93 (mO y28.2.2 [] [(49, upI (y28.2.2.2 49) v3 y28.2.1)])) fun y31 =>
        if y31.1 = 0 then
          kfl_rd_statement_162 v1 v2 v3 y31.2.2
        else
          some (y31.1, 0, y31.2.2)
      else
        some (y28.1, 0, y28.2.2)
    else
      some (y25.1, 0, y25.2.2)
  else
    some (y22.1, 0, y22.2.2)
theorem dg_rd_statement_103 (w : wX) (c : Nat → Option am_C) (N D : Nat) (bb : Nat) (v1 : Int) (v2 : Int) (v3 : Int) (q1 : R32 v1) (q2 : R32 v2) (q3 : R32 v3) (m : mR) (hm : KCn m) (j : Nat → Int) : PP bb w D pm_122 (103, [(0, .ref 178), (1, .int (i32 v1)), (2, .int (i32 v2)), (3, .int (i32 v3))], [], (khp m c, N), 0, 0) (QS (FX1 c N) (kfl_rd_statement_103 v1 v2 v3 m)) := by
  unfold kfl_rd_statement_103
  show PP bb w D pm_122 (103, [(0, .ref 178), (1, .int (i32 v1)), (2, .int (i32 v2)), (3, .int (i32 v3))], [], (khp (mO m [] []) c, N), 0, 0) _
  refine P_ld 104 (.ref 178) rfl (fun _ => rfl) ?_
  refine P_ld 105 (.int (i32 v3)) rfl (fun _ => rfl) ?_
  refine P_cx0 108 125 [.ref 178, .int (i32 v3)] [] rfl (fun _ => rfl) rfl rfl (D_rd_arrayOf w m c N D hm v3 q3) (fun y x hm e => ⟨_, rfl, hm, Or.inr ⟨x, e, rfl⟩⟩) (fun y22 n24 => ?_)
  refine P_ld 109 (.ref 178) rfl (fun _ => rfl) ?_
  refine PK_gf 112 (.ref 6) rfl rfl kd_178 rfl rfl rfl ?_
  refine P_ld 114 (.int (i32 91)) rfl (fun _ => rfl) ?_
  refine P_cx0 117 78 [.ref 6, .int (i32 91)] [] rfl (fun _ => rfl) rfl rfl (D_tx_expect w y22.2.2 c N D n24 91 (l32 91 rfl)) (fun y x hm e => ⟨_, rfl, hm, Or.inr ⟨x, e, rfl⟩⟩) (fun y25 n27 => ?_)
  refine P_ld 118 (.ref 178) rfl (fun _ => rfl) ?_
  refine PK_gf 121 (.ref 45) rfl rfl kd_178 rfl rfl rfl ?_
  refine PK_gf 124 (.ref 55) rfl rfl kd_45 rfl rfl rfl ?_
  refine P_ld 125 (.int (i32 v3)) rfl (fun _ => rfl) ?_
  refine P_ld 126 (.ref 178) rfl (fun _ => rfl) ?_
  refine PK_gf 129 (.ref 12) rfl rfl kd_178 rfl rfl rfl ?_
  refine PK_gf 132 (.ref 22) rfl rfl kd_12 rfl rfl rfl ?_
  refine PK_gf 135 (.int (i32 (y25.2.2.1 220))) rfl rfl kd_22 rfl rfl rfl ?_
  refine PK_iast2 (a' := [(48, upI (y25.2.2.2 48) v3 (y25.2.2.1 220))]) 136 48 (y25.2.2.2 48) rfl rfl rfl q3 rfl rfl ?_
  refine P_ld 137 (.ref 178) rfl (fun _ => rfl) ?_
  refine PK_gf 140 (.ref 45) rfl rfl kd_178 rfl rfl rfl ?_
  refine PK_gf 143 (.ref 56) rfl rfl kd_45 rfl rfl rfl ?_
  refine P_ld 144 (.int (i32 v3)) rfl (fun _ => rfl) ?_
  refine P_ld 145 (.ref 178) rfl (fun _ => rfl) ?_
  refine PK_gf 148 (.ref 181) rfl rfl kd_178 rfl rfl rfl ?_
  refine P_ld 149 (.int (i32 v1)) rfl (fun _ => rfl) ?_
  refine P_cx1 152 92 [.ref 181, .int (i32 v1)] [.int (i32 v3), .ref 56] rfl (fun _ => rfl) rfl rfl (D_fm_whole w (mO y25.2.2 [] [(48, upI (y25.2.2.2 48) v3 (y25.2.2.1 220))]) c N D (KCn_mO n27 rfl rfl trivial ⟨(kE_ui (KCn_a n27 48) rfl (KCn_i n27 220 rfl)), trivial⟩) v1 q1) (fun y x hm e => ⟨_, rfl, hm, Or.inr ⟨x, e, rfl⟩⟩) (fun y28 h29 n30 => ?_)
  refine PK_iast2 (a' := [(49, upI (y28.2.2.2 49) v3 y28.2.1)]) 153 49 (y28.2.2.2 49) rfl rfl rfl q3 rfl rfl ?_
  refine P_ld 154 (.ref 178) rfl (fun _ => rfl) ?_
  refine PK_gf 157 (.ref 6) rfl rfl kd_178 rfl rfl rfl ?_
  refine P_ld 159 (.int (i32 93)) rfl (fun _ => rfl) ?_
  refine P_cx0 162 78 [.ref 6, .int (i32 93)] [] rfl (fun _ => rfl) rfl rfl (D_tx_expect w (mO y28.2.2 [] [(49, upI (y28.2.2.2 49) v3 y28.2.1)]) c N D (KCn_mO n30 rfl rfl trivial ⟨(kE_ui (KCn_a n30 49) rfl h29), trivial⟩) 93 (l32 93 rfl)) (fun y x hm e => ⟨_, rfl, hm, Or.inr ⟨x, e, rfl⟩⟩) (fun y31 n33 => ?_)
  exact dg_rd_statement_162 w c N D bb v1 v2 v3 q1 q2 q3 y31.2.2 n33 (jk [])
def kfl_rd_statement_89 (v1 : Int) (v2 : Int) (v3 : Int) (m : mR) : Option (Int × Int × mR) :=
  if v2 = 327 then
    kfl_rd_statement_103 v1 v2 v3 m
  else
    if v2 = 328 then
      kfl_rd_statement_103 v1 v2 v3 m
    else
      kfl_rd_statement_162 v1 v2 v3 m
theorem dg_rd_statement_89 (w : wX) (c : Nat → Option am_C) (N D : Nat) (bb : Nat) (v1 : Int) (v2 : Int) (v3 : Int) (q1 : R32 v1) (q2 : R32 v2) (q3 : R32 v3) (m : mR) (hm : KCn m) (j : Nat → Int) : PP bb w D pm_122 (89, [(0, .ref 178), (1, .int (i32 v1)), (2, .int (i32 v2)), (3, .int (i32 v3))], [], (khp m c, N), 0, 0) (QS (FX1 c N) (kfl_rd_statement_89 v1 v2 v3 m)) := by
  unfold kfl_rd_statement_89
  show PP bb w D pm_122 (89, [(0, .ref 178), (1, .int (i32 v1)), (2, .int (i32 v2)), (3, .int (i32 v3))], [], (khp (mO m [] []) c, N), 0, 0) _
  refine P_ld 90 (.int (i32 v2)) rfl (fun _ => rfl) ?_
  refine P_ld 93 (.int (i32 327)) rfl (fun _ => rfl) ?_
  refine P_icF 103 96 rfl rfl rfl q2 (l32 327 rfl) rfl (fun h34 => ?_) (fun h34 => ?_)
  · skip
    exact dg_rd_statement_103 w c N D bb v1 v2 v3 q1 q2 q3 m hm (jk [])
  · skip
    refine P_ld 97 (.int (i32 v2)) rfl (fun _ => rfl) ?_
    refine P_ld 100 (.int (i32 328)) rfl (fun _ => rfl) ?_
    refine P_icE 162 103 rfl rfl rfl q2 (l32 328 rfl) rfl (fun h35 => ?_) (fun h35 => ?_)
    · skip
      exact dg_rd_statement_103 w c N D bb v1 v2 v3 q1 q2 q3 m hm (jk [])
    · skip
      exact dg_rd_statement_162 w c N D bb v1 v2 v3 q1 q2 q3 m hm (jk [])
def kfl_rd_statement_74 (v1 : Int) (v2 : Int) (v3 : Int) (m : mR) : Option (Int × Int × mR) :=
  if v2 = 61 then
    bnd (kf_tx_expect 61 m) fun y37 =>
    if y37.1 = 0 then
      kfl_rd_statement_89 v1 v2 v3 y37.2.2
    else
      some (y37.1, 0, y37.2.2)
  else
    kfl_rd_statement_89 v1 v2 v3 m
theorem dg_rd_statement_74 (w : wX) (c : Nat → Option am_C) (N D : Nat) (bb : Nat) (v1 : Int) (v2 : Int) (v3 : Int) (q1 : R32 v1) (q2 : R32 v2) (q3 : R32 v3) (m : mR) (hm : KCn m) (j : Nat → Int) : PP bb w D pm_122 (74, [(0, .ref 178), (1, .int (i32 v1)), (2, .int (i32 v2)), (3, .int (i32 v3))], [], (khp m c, N), 0, 0) (QS (FX1 c N) (kfl_rd_statement_74 v1 v2 v3 m)) := by
  unfold kfl_rd_statement_74
  show PP bb w D pm_122 (74, [(0, .ref 178), (1, .int (i32 v1)), (2, .int (i32 v2)), (3, .int (i32 v3))], [], (khp (mO m [] []) c, N), 0, 0) _
  refine P_ld 75 (.int (i32 v2)) rfl (fun _ => rfl) ?_
  refine P_ld 77 (.int (i32 61)) rfl (fun _ => rfl) ?_
  refine P_icE 89 80 rfl rfl rfl q2 (l32 61 rfl) rfl (fun h36 => ?_) (fun h36 => ?_)
  · skip
    refine P_ld 81 (.ref 178) rfl (fun _ => rfl) ?_
    refine PK_gf 84 (.ref 6) rfl rfl kd_178 rfl rfl rfl ?_
    refine P_ld 86 (.int (i32 61)) rfl (fun _ => rfl) ?_
    refine P_cx0 89 78 [.ref 6, .int (i32 61)] [] rfl (fun _ => rfl) rfl rfl (D_tx_expect w m c N D hm 61 (l32 61 rfl)) (fun y x hm e => ⟨_, rfl, hm, Or.inr ⟨x, e, rfl⟩⟩) (fun y37 n39 => ?_)
    exact dg_rd_statement_89 w c N D bb v1 v2 v3 q1 q2 q3 y37.2.2 n39 (jk [])
  · skip
    exact dg_rd_statement_89 w c N D bb v1 v2 v3 q1 q2 q3 m hm (jk [])
def kfl_rd_statement_61 (v1 : Int) (v2 : Int) (v3 : Int) (m : mR) : Option (Int × Int × mR) :=
  bnd (kf_rd_writtenSlot m) fun y40 =>
  if y40.1 = 0 then
    kfl_rd_statement_74 v1 v2 v3 (mO y40.2.2 [] [(46, upI (y40.2.2.2 46) v3 y40.2.1)])
  else
    some (y40.1, 0, y40.2.2)
theorem dg_rd_statement_61 (w : wX) (c : Nat → Option am_C) (N D : Nat) (bb : Nat) (v1 : Int) (v2 : Int) (v3 : Int) (q1 : R32 v1) (q2 : R32 v2) (q3 : R32 v3) (m : mR) (hm : KCn m) (j : Nat → Int) : PP bb w D pm_122 (61, [(0, .ref 178), (1, .int (i32 v1)), (2, .int (i32 v2)), (3, .int (i32 v3))], [], (khp m c, N), 0, 0) (QS (FX1 c N) (kfl_rd_statement_61 v1 v2 v3 m)) := by
  unfold kfl_rd_statement_61
  show PP bb w D pm_122 (61, [(0, .ref 178), (1, .int (i32 v1)), (2, .int (i32 v2)), (3, .int (i32 v3))], [], (khp (mO m [] []) c, N), 0, 0) _
  refine P_ld 62 (.ref 178) rfl (fun _ => rfl) ?_
  refine PK_gf 65 (.ref 45) rfl rfl kd_178 rfl rfl rfl ?_
  refine PK_gf 68 (.ref 53) rfl rfl kd_45 rfl rfl rfl ?_
  refine P_ld 69 (.int (i32 v3)) rfl (fun _ => rfl) ?_
  refine P_ld 70 (.ref 178) rfl (fun _ => rfl) ?_
  refine P_cx1 73 124 [.ref 178] [.int (i32 v3), .ref 53] rfl (fun _ => rfl) rfl rfl (D_rd_writtenSlot w m c N D hm) (fun y x hm e => ⟨_, rfl, hm, Or.inr ⟨x, e, rfl⟩⟩) (fun y40 h41 n42 => ?_)
  refine PK_iast2 (a' := [(46, upI (y40.2.2.2 46) v3 y40.2.1)]) 74 46 (y40.2.2.2 46) rfl rfl rfl q3 rfl rfl ?_
  exact dg_rd_statement_74 w c N D bb v1 v2 v3 q1 q2 q3 (mO y40.2.2 [] [(46, upI (y40.2.2.2 46) v3 y40.2.1)]) (KCn_mO n42 rfl rfl trivial ⟨(kE_ui (KCn_a n42 46) rfl h41), trivial⟩) (jk [])
def kfl_rd_statement_48 (v1 : Int) (v2 : Int) (v3 : Int) (m : mR) : Option (Int × Int × mR) :=
  if v2 = 61 then
    kfl_rd_statement_61 v1 v2 v3 m
  else
    if v2 = 327 then
      kfl_rd_statement_61 v1 v2 v3 m
    else
      kfl_rd_statement_74 v1 v2 v3 m
theorem dg_rd_statement_48 (w : wX) (c : Nat → Option am_C) (N D : Nat) (bb : Nat) (v1 : Int) (v2 : Int) (v3 : Int) (q1 : R32 v1) (q2 : R32 v2) (q3 : R32 v3) (m : mR) (hm : KCn m) (j : Nat → Int) : PP bb w D pm_122 (48, [(0, .ref 178), (1, .int (i32 v1)), (2, .int (i32 v2)), (3, .int (i32 v3))], [], (khp m c, N), 0, 0) (QS (FX1 c N) (kfl_rd_statement_48 v1 v2 v3 m)) := by
  unfold kfl_rd_statement_48
  show PP bb w D pm_122 (48, [(0, .ref 178), (1, .int (i32 v1)), (2, .int (i32 v2)), (3, .int (i32 v3))], [], (khp (mO m [] []) c, N), 0, 0) _
  refine P_ld 49 (.int (i32 v2)) rfl (fun _ => rfl) ?_
  refine P_ld 51 (.int (i32 61)) rfl (fun _ => rfl) ?_
  refine P_icF 61 54 rfl rfl rfl q2 (l32 61 rfl) rfl (fun h43 => ?_) (fun h43 => ?_)
  · skip
    exact dg_rd_statement_61 w c N D bb v1 v2 v3 q1 q2 q3 m hm (jk [])
  · skip
    refine P_ld 55 (.int (i32 v2)) rfl (fun _ => rfl) ?_
    refine P_ld 58 (.int (i32 327)) rfl (fun _ => rfl) ?_
    refine P_icE 74 61 rfl rfl rfl q2 (l32 327 rfl) rfl (fun h44 => ?_) (fun h44 => ?_)
    · skip
      exact dg_rd_statement_61 w c N D bb v1 v2 v3 q1 q2 q3 m hm (jk [])
    · skip
      exact dg_rd_statement_74 w c N D bb v1 v2 v3 q1 q2 q3 m hm (jk [])
def kfl_rd_statement_25 (v1 : Int) (u0 : Int) (m : mR) : Option (Int × Int × mR) :=
  bnd (kf_ac_addDeed u0 m) fun y45 =>
  if u0 = 61 then
    kfl_rd_statement_48 v1 u0 y45.1 y45.2
  else
    bnd (kf_tx_advance y45.2) fun y49 =>
    if y49.1 = 0 then
      kfl_rd_statement_48 v1 u0 y45.1 y49.2.2
    else
      some (y49.1, 0, y49.2.2)
theorem dg_rd_statement_25 (w : wX) (c : Nat → Option am_C) (N D : Nat) (bb : Nat) (v1 : Int) (u0 : Int) (q1 : R32 v1) (r0 : R32 u0) (m : mR) (hm : KCn m) (j : Nat → Int) : PP bb w D pm_122 (25, [(0, .ref 178), (1, .int (i32 v1))], [.int (i32 u0)], (khp m c, N), 0, 0) (QS (FX1 c N) (kfl_rd_statement_25 v1 u0 m)) := by
  unfold kfl_rd_statement_25
  show PP bb w D pm_122 (25, [(0, .ref 178), (1, .int (i32 v1))], [.int (i32 u0)], (khp (mO m [] []) c, N), 0, 0) _
  refine P_sto 26 [(2, .int (i32 u0)), (0, .ref 178), (1, .int (i32 v1))] rfl (fun _ => rfl) ?_
  refine P_ld 27 (.ref 178) rfl (fun _ => rfl) ?_
  refine PK_gf 30 (.ref 45) rfl rfl kd_178 rfl rfl rfl ?_
  refine P_ld 31 (.int (i32 u0)) rfl (fun _ => rfl) ?_
  refine P_ck1 34 123 [.ref 45, .int (i32 u0)] [] rfl (fun _ => rfl) rfl (D_ac_addDeed w m c N D hm u0 r0) (fun y45 h46 n47 => ?_)
  refine P_sto 35 [(3, .int (i32 y45.1)), (2, .int (i32 u0)), (0, .ref 178), (1, .int (i32 v1))] rfl (fun _ => rfl) ?_
  refine P_ld 36 (.int (i32 u0)) rfl (fun _ => rfl) ?_
  refine P_ld 38 (.int (i32 61)) rfl (fun _ => rfl) ?_
  refine P_icF 48 41 rfl rfl rfl r0 (l32 61 rfl) rfl (fun h48 => ?_) (fun h48 => ?_)
  · skip
    refine P_lv (b := [(0, .ref 178), (1, .int (i32 v1)), (2, .int (i32 u0)), (3, .int (i32 y45.1))]) rfl rfl ⟨rfl, rfl, rfl, rfl, trivial⟩ ?_
    exact dg_rd_statement_48 w c N D bb v1 u0 y45.1 q1 r0 h46 y45.2 n47 (jk [])
  · skip
    refine P_ld 42 (.ref 178) rfl (fun _ => rfl) ?_
    refine PK_gf 45 (.ref 6) rfl rfl kd_178 rfl rfl rfl ?_
    refine P_cx0 48 50 [.ref 6] [] rfl (fun _ => rfl) rfl rfl (D_tx_advance w y45.2 c N D n47) (fun y x hm e => ⟨_, rfl, hm, Or.inr ⟨x, e, rfl⟩⟩) (fun y49 n51 => ?_)
    refine P_lv (b := [(0, .ref 178), (1, .int (i32 v1)), (2, .int (i32 u0)), (3, .int (i32 y45.1))]) rfl rfl ⟨rfl, rfl, rfl, rfl, trivial⟩ ?_
    exact dg_rd_statement_48 w c N D bb v1 u0 y45.1 q1 r0 h46 y49.2.2 n51 (jk [])
def kf_rd_statement (v1 : Int) (m : mR) : Option (Int × Int × mR) :=
  if m.1 206 = 256 then
    kfl_rd_statement_25 v1 61 m
  else
    kfl_rd_statement_25 v1 (m.1 206) m
theorem D_rd_statement (w : wX) (m : mR) (c : Nat → Option am_C) (N D : Nat) (hm : KCn m) (v1 : Int) (q1 : R32 v1) : PC w D 122 [.ref 178, .int (i32 v1)] (khp m c, N) (QS (FX1 c N) (kf_rd_statement v1 m)) := by
  refine Pc_of (fun D bb => ?_) D
  unfold kf_rd_statement
  show PP bb w D pm_122 (0, [(0, .ref 178), (1, .int (i32 v1))], [], (khp (mO m [] []) c, N), 0, 0) _
  refine P_ld 1 (.ref 178) rfl (fun _ => rfl) ?_
  refine PK_gf 4 (.ref 6) rfl rfl kd_178 rfl rfl rfl ?_
  refine PK_gf 7 (.int (i32 (m.1 206))) rfl rfl kd_6 rfl rfl rfl ?_
  refine P_ld 10 (.int (i32 256)) rfl (fun _ => rfl) ?_
  refine P_icE 18 13 rfl rfl rfl (KCn_i hm 206 rfl) (l32 256 rfl) rfl (fun h52 => ?_) (fun h52 => ?_)
  · skip
    refine P_ld 15 (.int (i32 61)) rfl (fun _ => rfl) ?_
    refine P_goto 25 rfl (fun _ => rfl) ?_
    exact dg_rd_statement_25 w c N D bb v1 61 q1 (l32 61 rfl) m hm (jk [])
  · skip
    refine P_ld 19 (.ref 178) rfl (fun _ => rfl) ?_
    refine PK_gf 22 (.ref 6) rfl rfl kd_178 rfl rfl rfl ?_
    refine PK_gf 25 (.int (i32 (m.1 206))) rfl rfl kd_6 rfl rfl rfl ?_
    exact dg_rd_statement_25 w c N D bb v1 (m.1 206) q1 (KCn_i hm 206 rfl) m hm (jk [])
def cs_sp_applying_2 (s : Int) : Prop := R32 s
def cx_sp_applying_2 : (Sum (Int) (Unit)) → Prop := (sel (fun (e : Int) => R32 e) (fun (e : Unit) => True))
def hd_sp_applying_2 (c : Nat → Option am_C) (N : Nat) (v1 : Int) (m : mR) (s : Int) (j : Nat → Int) : ag_St af_T := (2, [(0, .ref 59), (1, .int (i32 v1)), (2, .int (i32 s))], [], (khp m c, N), 0, 0)
def ex_sp_applying_2 (c : Nat → Option am_C) (N : Nat) (v1 : Int) (m : mR) : (Sum (Int) (Unit)) → (Nat → Int) → ag_St af_T := (sel (fun (e : Int) (j : Nat → Int) => ((20, [(0, .ref 59), (1, .int (i32 (j 1))), (2, .int (i32 e))], [], (khp m c, N), 0, 0) : ag_St af_T)) (fun (e : Unit) (j : Nat → Int) => ((28, [(0, .ref 59), (1, .int (i32 (j 1))), (2, .int (i32 (j 2)))], [], (khp m c, N), 0, 0) : ag_St af_T)))
def kfb_sp_applying_2 (v1 : Int) (m : mR) (s : Int) : Option (Sum (Int) (Sum (Int) (Unit))) :=
  if m.1 225 ≤ s then
    some (.inr (.inr ()))
  else
    if (m.2 55) s = v1 then
      some (.inr (.inl s))
    else
      some (.inl (cut (s + 1)))
theorem dh_sp_applying_2 (w : wX) (c : Nat → Option am_C) (N D : Nat) (v1 : Int) (q1 : R32 v1) (m : mR) (hm : KCn m) (bb : Nat) (Q2 : Sum (Int) (Sum (Int) (Unit)) → ag_Re af_T → Prop) (H1 : ∀ s j, cs_sp_applying_2 s → PP bb w D pm_142 (hd_sp_applying_2 c N v1 m s j) (Q2 (.inl s))) (H2 : ∀ x j, cx_sp_applying_2 x → PP bb w D pm_142 (ex_sp_applying_2 c N v1 m x j) (Q2 (.inr x))) (s : Int) (j : Nat → Int) (hs : cs_sp_applying_2 s) : PP (bb + 1) w D pm_142 (hd_sp_applying_2 c N v1 m s j) (QS Q2 (kfb_sp_applying_2 v1 m s)) := by
  have g2 := hs
  unfold kfb_sp_applying_2
  show PP (bb + 1) w D pm_142 (2, [(0, .ref 59), (1, .int (i32 v1)), (2, .int (i32 s))], [], (khp (mO m [] []) c, N), 0, 0) _
  refine P1_ld 3 (.int (i32 s)) rfl (fun _ => rfl) ?_
  refine P_ld 4 (.ref 59) rfl (fun _ => rfl) ?_
  refine PK_gf 7 (.int (i32 (m.1 225))) rfl rfl kd_59 rfl rfl rfl ?_
  refine P_icF 28 10 rfl rfl rfl g2 (KCn_i hm 225 rfl) rfl (fun h3 => ?_) (fun h3 => ?_)
  · skip
    refine P_some ?_
    exact H2 (.inr ()) (jk [(1, v1), (2, s)]) trivial
  · skip
    refine P_ld 11 (.ref 59) rfl (fun _ => rfl) ?_
    refine PK_gf 14 (.ref 63) rfl rfl kd_59 rfl rfl rfl ?_
    refine P_ld 15 (.int (i32 s)) rfl (fun _ => rfl) ?_
    refine PK_iald2 16 55 (m.2 55) rfl rfl rfl g2 rfl ?_
    refine P_ld 17 (.int (i32 v1)) rfl (fun _ => rfl) ?_
    refine P_icE 22 20 rfl rfl rfl (kE_i (KCn_a hm 55) rfl _) q1 rfl (fun h4 => ?_) (fun h4 => ?_)
    · skip
      refine P_some ?_
      exact H2 (.inl s) (jk [(1, v1)]) g2
    · skip
      refine P_inc 25 [(2, .int (i32 (cut (s + 1)))), (0, .ref 59), (1, .int (i32 v1))] rfl rfl (by decide) rfl rfl ?_
      refine P_goto 2 rfl (fun _ => rfl) ?_
      refine P_some ?_
      refine P_lv (b := [(0, .ref 59), (1, .int (i32 v1)), (2, .int (i32 (cut (s + 1))))]) rfl rfl ⟨rfl, rfl, rfl, trivial⟩ ?_
      exact H1 (cut (s + 1)) (jk []) cut_r
def kf_sp_applying (v1 : Int) (m : mR) : Option Int :=
  bnd (whl (kfb_sp_applying_2 v1 m) 0) (sel
    (fun e5 : Int =>
      some e5)
    (fun e8 : Unit =>
      some (-1)))
theorem D_sp_applying (w : wX) (m : mR) (c : Nat → Option am_C) (N D : Nat) (hm : KCn m) (v1 : Int) (q1 : R32 v1) : PC w D 142 [.ref 59, .int (i32 v1)] (khp m c, N) (QS (FP1 (khp m c, N)) (kf_sp_applying v1 m)) := by
  refine Pc_of (fun D bb => ?_) D
  unfold kf_sp_applying
  show PP bb w D pm_142 (0, [(0, .ref 59), (1, .int (i32 v1))], [], (khp (mO m [] []) c, N), 0, 0) _
  refine P_ld 1 (.int (i32 0)) rfl (fun _ => rfl) ?_
  refine P_sto 2 [(2, .int (i32 0)), (0, .ref 59), (1, .int (i32 v1))] rfl (fun _ => rfl) ?_
  refine P_lv (b := [(0, .ref 59), (1, .int (i32 v1)), (2, .int (i32 0))]) rfl rfl ⟨rfl, rfl, rfl, trivial⟩ ?_
  refine P_bnd ?_
  refine P_whl (fun bb Q2 H1 H2 s9 j9 hs9 => dh_sp_applying_2 w c N D v1 q1 m hm bb Q2 H1 H2 s9 j9 hs9) bb (fun x0 j hx0 => ?_) 0 (jk []) (l32 0 rfl)
  cases x0 with
  | inl e5 =>
    have q6 := hx0
    have q7 := q6
    show PP bb w D pm_142 (20, [(0, .ref 59), (1, .int (i32 (j 1))), (2, .int (i32 e5))], [], (khp (mO m [] []) c, N), 0, 0) (QS _ (some e5))
    refine P_ld 21 (.int (i32 e5)) rfl (fun _ => rfl) ?_
    exact P_rp1 rfl q7
  | inr e8 =>
    have q9 := hx0
    show PP bb w D pm_142 (28, [(0, .ref 59), (1, .int (i32 (j 1))), (2, .int (i32 (j 2)))], [], (khp (mO m [] []) c, N), 0, 0) (QS _ (some (-1)))
    refine P_ld 29 (.int (i32 (-1))) rfl (fun _ => rfl) ?_
    exact P_rp1 rfl (l32 (-1) rfl)
def kfl_rd_apply_48 (v1 : Int) (v3 : Int) (m : mR) : Option (Int × Int × mR) :=
  bnd (kf_tx_expect 59 (mO m [] [(55, upI (m.2 55) v1 v3)])) fun y1 =>
  if y1.1 = 0 then
    some (0, 0, y1.2.2)
  else
    some (y1.1, 0, y1.2.2)
theorem dg_rd_apply_48 (w : wX) (c : Nat → Option am_C) (N D : Nat) (bb : Nat) (v1 : Int) (v3 : Int) (q1 : R32 v1) (q3 : R32 v3) (m : mR) (hm : KCn m) (j : Nat → Int) : PP bb w D pm_141 (48, [(0, .ref 178), (1, .int (i32 v1)), (2, .int (i32 (j 2))), (3, .int (i32 v3))], [], (khp m c, N), 0, 0) (QS (FX0 c N) (kfl_rd_apply_48 v1 v3 m)) := by
  unfold kfl_rd_apply_48
  show PP bb w D pm_141 (48, [(0, .ref 178), (1, .int (i32 v1)), (2, .int (i32 (j 2))), (3, .int (i32 v3))], [], (khp (mO m [] []) c, N), 0, 0) _
  refine P_ld 49 (.ref 178) rfl (fun _ => rfl) ?_
  refine PK_gf 52 (.ref 59) rfl rfl kd_178 rfl rfl rfl ?_
  refine PK_gf 55 (.ref 63) rfl rfl kd_59 rfl rfl rfl ?_
  refine P_ld 56 (.int (i32 v1)) rfl (fun _ => rfl) ?_
  refine P_ld 57 (.int (i32 v3)) rfl (fun _ => rfl) ?_
  refine PK_iast2 (a' := [(55, upI (m.2 55) v1 v3)]) 58 55 (m.2 55) rfl rfl rfl q1 rfl rfl ?_
  refine P_ld 59 (.ref 178) rfl (fun _ => rfl) ?_
  refine PK_gf 62 (.ref 6) rfl rfl kd_178 rfl rfl rfl ?_
  refine P_ld 64 (.int (i32 59)) rfl (fun _ => rfl) ?_
  refine P_cx0 67 78 [.ref 6, .int (i32 59)] [] rfl (fun _ => rfl) rfl rfl (D_tx_expect w (mO m [] [(55, upI (m.2 55) v1 v3)]) c N D (KCn_mO hm rfl rfl trivial ⟨(kE_ui (KCn_a hm 55) rfl q3), trivial⟩) 59 (l32 59 rfl)) (fun y x hm e => ⟨_, rfl, hm, Or.inr ⟨x, e, rfl⟩⟩) (fun y1 n3 => ?_)
  exact P_rx0 rfl rfl n3
def kf_rd_apply (v1 : Int) (m : mR) : Option (Int × Int × mR) :=
  bnd (kf_tx_advance m) fun y4 =>
  if y4.1 = 0 then
    bnd (kf_tx_known 310 y4.2.2) fun y7 =>
    if y7.1 = 0 then
      bnd (kf_sp_applying y7.2.1 y7.2.2) fun y10 =>
      if y10 = (-1) then
        kfl_rd_apply_48 v1 y7.2.1 y7.2.2
      else
        bnd (kf_tx_fail 8 (y4.2.2.1 207) y7.2.2) fun y14 =>
        if y14.1 = 0 then
          kfl_rd_apply_48 v1 y7.2.1 y14.2.2
        else
          some (y14.1, 0, y14.2.2)
    else
      some (y7.1, 0, y7.2.2)
  else
    some (y4.1, 0, y4.2.2)
theorem D_rd_apply (w : wX) (m : mR) (c : Nat → Option am_C) (N D : Nat) (hm : KCn m) (v1 : Int) (q1 : R32 v1) : PC w D 141 [.ref 178, .int (i32 v1)] (khp m c, N) (QS (FX0 c N) (kf_rd_apply v1 m)) := by
  refine Pc_of (fun D bb => ?_) D
  unfold kf_rd_apply
  show PP bb w D pm_141 (0, [(0, .ref 178), (1, .int (i32 v1))], [], (khp (mO m [] []) c, N), 0, 0) _
  refine P_ld 1 (.ref 178) rfl (fun _ => rfl) ?_
  refine PK_gf 4 (.ref 6) rfl rfl kd_178 rfl rfl rfl ?_
  refine P_cx0 7 50 [.ref 6] [] rfl (fun _ => rfl) rfl rfl (D_tx_advance w m c N D hm) (fun y x hm e => ⟨_, rfl, hm, Or.inr ⟨x, e, rfl⟩⟩) (fun y4 n6 => ?_)
  refine P_ld 8 (.ref 178) rfl (fun _ => rfl) ?_
  refine PK_gf 11 (.ref 6) rfl rfl kd_178 rfl rfl rfl ?_
  refine PK_gf 14 (.int (i32 (y4.2.2.1 207))) rfl rfl kd_6 rfl rfl rfl ?_
  refine P_sto 15 [(2, .int (i32 (y4.2.2.1 207))), (0, .ref 178), (1, .int (i32 v1))] rfl (fun _ => rfl) ?_
  refine P_ld 16 (.ref 178) rfl (fun _ => rfl) ?_
  refine PK_gf 19 (.ref 6) rfl rfl kd_178 rfl rfl rfl ?_
  refine P_ld 22 (.int (i32 310)) rfl (fun _ => rfl) ?_
  refine P_cx1 25 83 [.ref 6, .int (i32 310)] [] rfl (fun _ => rfl) rfl rfl (D_tx_known w y4.2.2 c N D n6 310 (l32 310 rfl)) (fun y x hm e => ⟨_, rfl, hm, Or.inr ⟨x, e, rfl⟩⟩) (fun y7 h8 n9 => ?_)
  refine P_sto 26 [(3, .int (i32 y7.2.1)), (2, .int (i32 (y4.2.2.1 207))), (0, .ref 178), (1, .int (i32 v1))] rfl (fun _ => rfl) ?_
  refine P_ld 27 (.ref 178) rfl (fun _ => rfl) ?_
  refine PK_gf 30 (.ref 59) rfl rfl kd_178 rfl rfl rfl ?_
  refine P_ld 31 (.int (i32 y7.2.1)) rfl (fun _ => rfl) ?_
  refine P_cp1 34 142 [.ref 59, .int (i32 y7.2.1)] [] rfl (fun _ => rfl) rfl (D_sp_applying w y7.2.2 c N D n9 y7.2.1 h8) (fun y10 h11 => ?_)
  refine P_ld 35 (.int (i32 (-1))) rfl (fun _ => rfl) ?_
  refine P_icF 48 38 rfl rfl rfl h11 (l32 (-1) rfl) rfl (fun h13 => ?_) (fun h13 => ?_)
  · skip
    refine P_lv (b := [(0, .ref 178), (1, .int (i32 v1)), (2, .int (i32 (y4.2.2.1 207))), (3, .int (i32 y7.2.1))]) rfl rfl ⟨rfl, rfl, rfl, rfl, trivial⟩ ?_
    exact dg_rd_apply_48 w c N D bb v1 y7.2.1 q1 h8 y7.2.2 n9 (jk [(2, y4.2.2.1 207)])
  · skip
    refine P_ld 39 (.ref 178) rfl (fun _ => rfl) ?_
    refine PK_gf 42 (.ref 6) rfl rfl kd_178 rfl rfl rfl ?_
    refine P_ld 44 (.int (i32 8)) rfl (fun _ => rfl) ?_
    refine P_ld 45 (.int (i32 (y4.2.2.1 207))) rfl (fun _ => rfl) ?_
    refine P_cx0 48 51 [.ref 6, .int (i32 8), .int (i32 (y4.2.2.1 207))] [] rfl (fun _ => rfl) rfl rfl (D_tx_fail w y7.2.2 c N D n9 8 (y4.2.2.1 207) (l32 8 rfl) (KCn_i n6 207 rfl)) (fun y x hm e => ⟨_, rfl, hm, Or.inr ⟨x, e, rfl⟩⟩) (fun y14 n16 => ?_)
    refine P_lv (b := [(0, .ref 178), (1, .int (i32 v1)), (2, .int (i32 (y4.2.2.1 207))), (3, .int (i32 y7.2.1))]) rfl rfl ⟨rfl, rfl, rfl, rfl, trivial⟩ ?_
    exact dg_rd_apply_48 w c N D bb v1 y7.2.1 q1 h8 y14.2.2 n16 (jk [(2, y4.2.2.1 207)])
end X28J
