def fF_rd_field : List Nat := [205, 206, 207, 208, 209, 210, 211, 212]
def fA_rd_field : List Nat := [10, 11, 12]
def Q_rd_field (m : mR) (c : Nat → Option am_C) (N : Nat) (h : Int) (i : Int) : ag_Re af_T → Prop := fun R => (∃ (M : mR), KTy M ∧ fr fF_rd_field fA_rd_field m M ∧ (HBp h (M.2 10)) ∧ R = (.inl (none), (khp M c, N), 0, 0)) ∨ (∃ (x : Nat) (M : mR), (x = 0) ∧ (KTy M) ∧ (fr fF_rd_field fA_rd_field m M) ∧ R = (.inr x, (khp M c, N), 1, 6))
set_option maxHeartbeats 3000000 in
theorem c_rd_field (w : wX) (m : mR) (c : Nat → Option am_C) (N D : Nat) (hD : 9 ≤ D) (hT : KTy m) (h : Int) (i : Int) (qh : R32 h) (qi : R32 i) (p0 : 0 ≤ h ∧ h ≤ 11) (p1 : 0 ≤ i ∧ i ≤ 16) (hHB : HBp h (m.2 10)) : TC w D 79 [.ref 178, .int (i32 h), .int (i32 i)] (khp m c, N) (Q_rd_field m c N h i) := by
  obtain ⟨D, rfl⟩ : ∃ k, D = k + 1 := ⟨D - 1, by omega⟩
  obtain ⟨qha, qhb⟩ := id qh
  obtain ⟨qia, qib⟩ := id qi
  have f206 : (-1) ≤ m.1 206 ∧ m.1 206 ≤ 65535 := hT.1 206
  have f207 : 0 ≤ m.1 207 ∧ m.1 207 ≤ 4001 := hT.1 207
  have f209 : (-9223372036854775808) ≤ m.1 209 ∧ m.1 209 ≤ 9223372036854775807 := hT.1 209
  have f210 : (-9223372036854775808) ≤ m.1 210 ∧ m.1 210 ≤ 9223372036854775807 := hT.1 210
  have f213 : 0 ≤ m.1 213 ∧ m.1 213 ≤ 1 := hT.1 213
  refine Tc_of rfl ?_
  rw [show (khp m c, N) = (khp (mO m [] []) c, N) from by rw [mO_nil m]]
  show TT w D pm_79 (0, [(0, .ref 178), (1, .int (i32 h)), (2, .int (i32 i))], [], (khp (mO m [] []) c, N), 0, 0) (Q_rd_field m c N h i)
  refine T_ld 1 (.ref 178) rfl (fun _ => rfl) ?_
  refine K_gf 4 (.ref 6) rfl rfl kd_178 rfl rfl rfl ?_
  refine K_gf 7 (.int (i32 (m.1 206))) rfl rfl kd_6 rfl rfl rfl ?_
  refine T_ld 10 (.int (i32 256)) rfl (fun _ => rfl) ?_
  refine T_icmp 20 13 rfl rfl rfl (r32 (by omega) (by omega)) ⟨by decide, by decide⟩ (fun (h1 : (m.1 206) = 256) => ?_) (fun (h1 : ¬ ((m.1 206) = 256)) => ?_)
  · skip
    refine T_ld 21 (.int (i32 i)) rfl (fun _ => rfl) ?_
    refine T_ld 23 (.int (i32 16)) rfl (fun _ => rfl) ?_
    refine T_icmp 41 26 rfl rfl rfl (r32 (by omega) (by omega)) ⟨by decide, by decide⟩ (fun (h2 : i < 16) => ?_) (fun (h2 : ¬ (i < 16)) => ?_)
    · skip
      refine T_ld 42 (.ref 178) rfl (fun _ => rfl) ?_
      refine K_gf 45 (.ref 12) rfl rfl kd_178 rfl rfl rfl ?_
      refine T_ld 46 (.int (i32 h)) rfl (fun _ => rfl) ?_
      refine T_ld 47 (.ref 178) rfl (fun _ => rfl) ?_
      refine K_gf 50 (.ref 6) rfl rfl kd_178 rfl rfl rfl ?_
      refine K_gf 53 (.long (i64 (m.1 209))) rfl rfl kd_6 rfl rfl rfl ?_
      refine T_ld 54 (.ref 178) rfl (fun _ => rfl) ?_
      refine K_gf 57 (.ref 6) rfl rfl kd_178 rfl rfl rfl ?_
      refine K_gf 60 (.long (i64 (m.1 210))) rfl rfl kd_6 rfl rfl rfl ?_
      refine T_callx 63 80 [.ref 12, .int (i32 h), .long (i64 (m.1 209)), .long (i64 (m.1 210))] [] rfl (fun _ => rfl) rfl rfl (c_pr_fieldOf w (mO m [] []) c N D (by omega) hT h (m.1 209) (m.1 210) (r32 (by omega) (by omega)) (r64 (by omega) (by omega)) (r64 (by omega) (by omega)) (show 0 ≤ h ∧ h ≤ 11 by omega)) (fun rr3 k4 => ?_)
      obtain ⟨x5, g6, rfl⟩ := k4
      refine Or.inl ⟨_, _, _, _, rfl, ?_⟩
      refine T_ns (st' := [.int (i32 x5)]) rfl ?_
      obtain ⟨g6a, g6b⟩ := g6
      refine T_ld 64 (.int (i32 (-1))) rfl (fun _ => rfl) ?_
      refine T_icmp 82 67 rfl rfl rfl (r32 (by omega) (by omega)) ⟨by decide, by decide⟩ (fun (h7 : x5 = (-1)) => ?_) (fun (h7 : ¬ (x5 = (-1))) => ?_)
      · skip
        refine T_ld 83 (.int (i32 h)) rfl (fun _ => rfl) ?_
        refine T_ld 85 (.int (i32 16)) rfl (fun _ => rfl) ?_
        refine T_imul 86 rfl rfl ?_
        refine T_ld 87 (.int (i32 i)) rfl (fun _ => rfl) ?_
        refine T_iadd 88 rfl rfl ?_
        refine T_sto 89 [(3, .int (i32 ((h * 16) + i))), (0, .ref 178), (1, .int (i32 h)), (2, .int (i32 i))] rfl (fun _ => rfl) ?_
        refine T_ld 90 (.ref 178) rfl (fun _ => rfl) ?_
        refine K_gf 93 (.ref 12) rfl rfl kd_178 rfl rfl rfl ?_
        refine K_gf 96 (.ref 14) rfl rfl kd_12 rfl rfl rfl ?_
        refine T_ld 97 (.int (i32 ((h * 16) + i))) rfl (fun _ => rfl) ?_
        refine T_ld 98 (.ref 178) rfl (fun _ => rfl) ?_
        refine K_gf 101 (.ref 6) rfl rfl kd_178 rfl rfl rfl ?_
        refine K_gf 104 (.long (i64 (m.1 209))) rfl rfl kd_6 rfl rfl rfl ?_
        have G8 : ∀ j, (-9223372036854775808) ≤ (upI (m.2 11) ((h * 16) + i) (m.1 209)) j ∧ (upI (m.2 11) ((h * 16) + i) (m.1 209)) j ≤ 9223372036854775807 := upI_rg (hT.2.1 11) ⟨by omega, by omega⟩
        refine K_last (a' := [(11, upI (m.2 11) ((h * 16) + i) (m.1 209))]) 105 11 (m.2 11) rfl rfl rfl (by omega) (show ((h * 16) + i) < (192 : Int) by omega) rfl rfl ?_
        refine T_ld 106 (.ref 178) rfl (fun _ => rfl) ?_
        refine K_gf 109 (.ref 12) rfl rfl kd_178 rfl rfl rfl ?_
        refine K_gf 112 (.ref 15) rfl rfl kd_12 rfl rfl rfl ?_
        refine T_ld 113 (.int (i32 ((h * 16) + i))) rfl (fun _ => rfl) ?_
        refine T_ld 114 (.ref 178) rfl (fun _ => rfl) ?_
        refine K_gf 117 (.ref 6) rfl rfl kd_178 rfl rfl rfl ?_
        refine K_gf 120 (.long (i64 (m.1 210))) rfl rfl kd_6 rfl rfl rfl ?_
        have G9 : ∀ j, (-9223372036854775808) ≤ (upI (m.2 12) ((h * 16) + i) (m.1 210)) j ∧ (upI (m.2 12) ((h * 16) + i) (m.1 210)) j ≤ 9223372036854775807 := upI_rg (hT.2.1 12) ⟨by omega, by omega⟩
        refine K_last (a' := [(11, upI (m.2 11) ((h * 16) + i) (m.1 209)), (12, upI (m.2 12) ((h * 16) + i) (m.1 210))]) 121 12 (m.2 12) rfl rfl rfl (by omega) (show ((h * 16) + i) < (192 : Int) by omega) rfl rfl ?_
        refine T_ld 122 (.ref 178) rfl (fun _ => rfl) ?_
        refine K_gf 125 (.ref 6) rfl rfl kd_178 rfl rfl rfl ?_
        refine T_callx 128 50 [.ref 6] [] rfl (fun _ => rfl) rfl rfl (c_tx_advance w (mO m [] [(11, upI (m.2 11) ((h * 16) + i) (m.1 209)), (12, upI (m.2 12) ((h * 16) + i) (m.1 210))]) c N D (by omega) (KTy_mO hT rfl rfl trivial ⟨G8, G9, trivial⟩) ) (fun rr10 k11 => ?_)
        rcases k11 with ⟨m12, Tm12, Fm12, h13, rfl⟩ | ⟨xx16, m14, hx15, Tm14, Fm14, rfl⟩
        rotate_left
        · skip
          refine Or.inr ⟨_, _, _, _, rfl, ?_⟩
          exact Or.inr ⟨xx16, (mO m14 [] []), (hx15), Tm14, (fr_m (fr_s Fm14 (fr_m fr_0 rfl rfl) rfl rfl) rfl rfl), rfl⟩
        refine Or.inl ⟨_, _, _, _, rfl, ?_⟩
        refine K_nb (st' := []) rfl ?_
        have g17 : (-1) ≤ m12.1 206 ∧ m12.1 206 ≤ 65535 := Tm12.1 206
        have g18 : 0 ≤ m12.1 207 ∧ m12.1 207 ≤ 4001 := Tm12.1 207
        have g19 : (-9223372036854775808) ≤ m12.1 209 ∧ m12.1 209 ≤ 9223372036854775807 := Tm12.1 209
        have g20 : (-9223372036854775808) ≤ m12.1 210 ∧ m12.1 210 ≤ 9223372036854775807 := Tm12.1 210
        replace h13 : (m.1 213) = 0 := h13
        refine T_ld 129 (.ref 178) rfl (fun _ => rfl) ?_
        refine K_gf 132 (.ref 6) rfl rfl kd_178 rfl rfl rfl ?_
        refine T_ld 134 (.int (i32 58)) rfl (fun _ => rfl) ?_
        refine T_callx 137 78 [.ref 6, .int (i32 58)] [] rfl (fun _ => rfl) rfl rfl (c_tx_expect w (mO m12 [] []) c N D (by omega) Tm12 58 ⟨by decide, by decide⟩) (fun rr21 k22 => ?_)
        rcases k22 with ⟨m23, Tm23, Fm23, h24, h25, rfl⟩ | ⟨xx28, m26, hx27, Tm26, Fm26, rfl⟩
        rotate_left
        · skip
          refine Or.inr ⟨_, _, _, _, rfl, ?_⟩
          exact Or.inr ⟨xx28, (mO m26 [] []), (hx27), Tm26, (fr_m (fr_s Fm26 (fr_m (fr_s Fm12 (fr_m fr_0 rfl rfl) rfl rfl) rfl rfl) rfl rfl) rfl rfl), rfl⟩
        refine Or.inl ⟨_, _, _, _, rfl, ?_⟩
        refine K_nb (st' := []) rfl ?_
        have g29 : (-1) ≤ m23.1 206 ∧ m23.1 206 ≤ 65535 := Tm23.1 206
        have g30 : 0 ≤ m23.1 207 ∧ m23.1 207 ≤ 4001 := Tm23.1 207
        have g31 : (-9223372036854775808) ≤ m23.1 209 ∧ m23.1 209 ≤ 9223372036854775807 := Tm23.1 209
        have g32 : (-9223372036854775808) ≤ m23.1 210 ∧ m23.1 210 ≤ 9223372036854775807 := Tm23.1 210
        replace h24 : (m12.1 206) = (58 : Int) := h24
        replace h25 : (m12.1 213) = 0 := h25
        rewrite [(show (m12.1 213) = (m.1 213) from (fr1 Fm12 213 rfl))] at h25
        refine T_ld 138 (.ref 178) rfl (fun _ => rfl) ?_
        refine K_gf 141 (.ref 12) rfl rfl kd_178 rfl rfl rfl ?_
        refine K_gf 144 (.ref 13) rfl rfl kd_12 rfl rfl rfl ?_
        refine T_ld 145 (.int (i32 ((h * 16) + i))) rfl (fun _ => rfl) ?_
        refine T_ld 146 (.ref 178) rfl (fun _ => rfl) ?_
        refine K_gf 149 (.ref 6) rfl rfl kd_178 rfl rfl rfl ?_
        refine T_ld 150 (.int (i32 1)) rfl (fun _ => rfl) ?_
        refine T_ld 152 (.int (i32 64)) rfl (fun _ => rfl) ?_
        refine T_callx 155 81 [.ref 6, .int (i32 1), .int (i32 64)] [.int (i32 ((h * 16) + i)), .ref 13] rfl (fun _ => rfl) rfl rfl (c_tx_within w (mO m23 [] []) c N D (by omega) Tm23 1 64 ⟨by decide, by decide⟩ ⟨by decide, by decide⟩ (show 0 ≤ (1 : Int) ∧ (1 : Int) ≤ (64 : Int) ∧ (64 : Int) ≤ 64 by omega)) (fun rr33 k34 => ?_)
        rcases k34 with ⟨m35, wn, Tm35, Fm35, g36, h37, h38, rfl⟩ | ⟨xx41, m39, hx40, Tm39, Fm39, rfl⟩
        rotate_left
        · skip
          refine Or.inr ⟨_, _, _, _, rfl, ?_⟩
          exact Or.inr ⟨xx41, (mO m39 [] []), (hx40), Tm39, (fr_m (fr_s Fm39 (fr_m (fr_s Fm23 (fr_m (fr_s Fm12 (fr_m fr_0 rfl rfl) rfl rfl) rfl rfl) rfl rfl) rfl rfl) rfl rfl) rfl rfl), rfl⟩
        refine Or.inl ⟨_, _, _, _, rfl, ?_⟩
        refine K_nb (st' := [.int (i32 wn), .int (i32 ((h * 16) + i)), .ref 13]) rfl ?_
        obtain ⟨g36a, g36b⟩ := g36
        have g42 : (-1) ≤ m35.1 206 ∧ m35.1 206 ≤ 65535 := Tm35.1 206
        have g43 : 0 ≤ m35.1 207 ∧ m35.1 207 ≤ 4001 := Tm35.1 207
        have g44 : (-9223372036854775808) ≤ m35.1 209 ∧ m35.1 209 ≤ 9223372036854775807 := Tm35.1 209
        have g45 : (-9223372036854775808) ≤ m35.1 210 ∧ m35.1 210 ≤ 9223372036854775807 := Tm35.1 210
        replace h37 : (1 : Int) ≤ wn ∧ wn ≤ (64 : Int) := h37
        replace h38 : (m23.1 213) = 0 := h38
        rewrite [(show (m23.1 213) = (m.1 213) from ((fr1 Fm23 213 rfl).trans (fr1 Fm12 213 rfl)))] at h38
        have G46 : ∀ j, 0 ≤ (upI (m.2 10) ((h * 16) + i) wn) j ∧ (upI (m.2 10) ((h * 16) + i) wn) j ≤ 64 := upI_rg (hT.2.1 10) ⟨by omega, by omega⟩
        refine K_iast (a' := [(10, upI (m.2 10) ((h * 16) + i) wn)]) 156 10 (m.2 10) rfl rfl rfl (by omega) (show ((h * 16) + i) < (192 : Int) by omega) (show (m35.2 10) = (m.2 10) from ((fr2 Fm35 10 rfl).trans ((fr2 Fm23 10 rfl).trans (fr2 Fm12 10 rfl)))) rfl ?_
        refine T_ld 157 (.ref 178) rfl (fun _ => rfl) ?_
        refine K_gf 160 (.ref 6) rfl rfl kd_178 rfl rfl rfl ?_
        refine T_ld 162 (.int (i32 59)) rfl (fun _ => rfl) ?_
        refine T_callx 165 78 [.ref 6, .int (i32 59)] [] rfl (fun _ => rfl) rfl rfl (c_tx_expect w (mO m35 [] [(10, upI (m.2 10) ((h * 16) + i) wn)]) c N D (by omega) (KTy_mO Tm35 rfl rfl trivial ⟨G46, trivial⟩) 59 ⟨by decide, by decide⟩) (fun rr47 k48 => ?_)
        rcases k48 with ⟨m49, Tm49, Fm49, h50, h51, rfl⟩ | ⟨xx54, m52, hx53, Tm52, Fm52, rfl⟩
        rotate_left
        · skip
          refine Or.inr ⟨_, _, _, _, rfl, ?_⟩
          exact Or.inr ⟨xx54, (mO m52 [] []), (hx53), Tm52, (fr_m (fr_s Fm52 (fr_m (fr_s Fm35 (fr_m (fr_s Fm23 (fr_m (fr_s Fm12 (fr_m fr_0 rfl rfl) rfl rfl) rfl rfl) rfl rfl) rfl rfl) rfl rfl) rfl rfl) rfl rfl) rfl rfl), rfl⟩
        refine Or.inl ⟨_, _, _, _, rfl, ?_⟩
        refine K_nb (st' := []) rfl ?_
        have g55 : (-1) ≤ m49.1 206 ∧ m49.1 206 ≤ 65535 := Tm49.1 206
        have g56 : 0 ≤ m49.1 207 ∧ m49.1 207 ≤ 4001 := Tm49.1 207
        have g57 : (-9223372036854775808) ≤ m49.1 209 ∧ m49.1 209 ≤ 9223372036854775807 := Tm49.1 209
        have g58 : (-9223372036854775808) ≤ m49.1 210 ∧ m49.1 210 ≤ 9223372036854775807 := Tm49.1 210
        replace h50 : (m35.1 206) = (59 : Int) := h50
        replace h51 : (m35.1 213) = 0 := h51
        rewrite [(show (m35.1 213) = (m.1 213) from ((fr1 Fm35 213 rfl).trans ((fr1 Fm23 213 rfl).trans (fr1 Fm12 213 rfl))))] at h51
        refine T_ret rfl (fun _ => rfl) ?_
        exact Or.inl ⟨(mO m49 [] []), Tm49, (fr_m (fr_s Fm49 (fr_m (fr_s Fm35 (fr_m (fr_s Fm23 (fr_m (fr_s Fm12 (fr_m fr_0 rfl rfl) rfl rfl) rfl rfl) rfl rfl) rfl rfl) rfl rfl) rfl rfl) rfl rfl) rfl rfl), (show HBp h (m49.2 10) by rewrite [(show (m49.2 10) = (upI (m.2 10) ((h * 16) + i) wn) from (fr2 Fm49 10 rfl))]; first | (exact HB_fl hHB (by omega) (by omega)) | (exfalso; omega)), rfl⟩
      · skip
        refine T_ld 68 (.ref 178) rfl (fun _ => rfl) ?_
        refine K_gf 71 (.ref 6) rfl rfl kd_178 rfl rfl rfl ?_
        refine T_ld 72 (.int (i32 3)) rfl (fun _ => rfl) ?_
        refine T_ld 73 (.ref 178) rfl (fun _ => rfl) ?_
        refine K_gf 76 (.ref 6) rfl rfl kd_178 rfl rfl rfl ?_
        refine K_gf 79 (.int (i32 (m.1 207))) rfl rfl kd_6 rfl rfl rfl ?_
        refine T_callx 82 51 [.ref 6, .int (i32 3), .int (i32 (m.1 207))] [] rfl (fun _ => rfl) rfl rfl (c_tx_fail w (mO m [] []) c N D (by omega) hT 3 (m.1 207) ⟨by decide, by decide⟩ (r32 (by omega) (by omega)) (show 1 ≤ (3 : Int) ∧ (3 : Int) ≤ 8 by omega) (show 0 ≤ (m.1 207) ∧ (m.1 207) ≤ 4001 by omega)) (fun rr59 k60 => ?_)
        rcases k60 with ⟨m61, Tm61, Fm61, h62, rfl⟩ | ⟨xx65, m63, hx64, Tm63, Fm63, rfl⟩
        rotate_left
        · skip
          refine Or.inr ⟨_, _, _, _, rfl, ?_⟩
          exact Or.inr ⟨xx65, (mO m63 [] []), (hx64), Tm63, (fr_m (fr_s Fm63 (fr_m fr_0 rfl rfl) rfl rfl) rfl rfl), rfl⟩
        exact h62.elim
    · skip
      refine T_ld 27 (.ref 178) rfl (fun _ => rfl) ?_
      refine K_gf 30 (.ref 6) rfl rfl kd_178 rfl rfl rfl ?_
      refine T_ld 31 (.int (i32 4)) rfl (fun _ => rfl) ?_
      refine T_ld 32 (.ref 178) rfl (fun _ => rfl) ?_
      refine K_gf 35 (.ref 6) rfl rfl kd_178 rfl rfl rfl ?_
      refine K_gf 38 (.int (i32 (m.1 207))) rfl rfl kd_6 rfl rfl rfl ?_
      refine T_callx 41 51 [.ref 6, .int (i32 4), .int (i32 (m.1 207))] [] rfl (fun _ => rfl) rfl rfl (c_tx_fail w (mO m [] []) c N D (by omega) hT 4 (m.1 207) ⟨by decide, by decide⟩ (r32 (by omega) (by omega)) (show 1 ≤ (4 : Int) ∧ (4 : Int) ≤ 8 by omega) (show 0 ≤ (m.1 207) ∧ (m.1 207) ≤ 4001 by omega)) (fun rr66 k67 => ?_)
      rcases k67 with ⟨m68, Tm68, Fm68, h69, rfl⟩ | ⟨xx72, m70, hx71, Tm70, Fm70, rfl⟩
      rotate_left
      · skip
        refine Or.inr ⟨_, _, _, _, rfl, ?_⟩
        exact Or.inr ⟨xx72, (mO m70 [] []), (hx71), Tm70, (fr_m (fr_s Fm70 (fr_m fr_0 rfl rfl) rfl rfl) rfl rfl), rfl⟩
      exact h69.elim
  · skip
    refine T_ld 14 (.ref 178) rfl (fun _ => rfl) ?_
    refine K_gf 17 (.ref 6) rfl rfl kd_178 rfl rfl rfl ?_
    refine T_callx 20 76 [.ref 6] [] rfl (fun _ => rfl) rfl rfl (c_tx_refuse w (mO m [] []) c N D (by omega) hT ) (fun rr73 k74 => ?_)
    rcases k74 with ⟨m75, Tm75, Fm75, h76, rfl⟩ | ⟨xx79, m77, hx78, Tm77, Fm77, rfl⟩
    rotate_left
    · skip
      refine Or.inr ⟨_, _, _, _, rfl, ?_⟩
      exact Or.inr ⟨xx79, (mO m77 [] []), (hx78), Tm77, (fr_m (fr_s Fm77 (fr_m fr_0 rfl rfl) rfl rfl) rfl rfl), rfl⟩
    exact h76.elim
def fF_rd_header : List Nat := [203, 205, 206, 207, 208, 209, 210, 211, 212, 214]
def fA_rd_header : List Nat := [6, 7, 8, 9, 10, 11, 12]
def Q_rd_header (m : mR) (c : Nat → Option am_C) (N : Nat) : ag_Re af_T → Prop := fun R => (∃ (M : mR), KTy M ∧ fr fF_rd_header fA_rd_header m M ∧ (KPp (M.1 203) (M.2 8) (M.2 9) (M.1 214) (m.1 215) (m.1 216) (m.1 217) (m.1 221) (m.1 223) (m.1 219)) ∧ (HBp (M.1 214) (M.2 10)) ∧ ((m.1 214) ≤ (M.1 214)) ∧ R = (.inl (none), (khp M c, N), 0, 0)) ∨ (∃ (x : Nat) (M : mR), (x = 0) ∧ (KTy M) ∧ (fr fF_rd_header fA_rd_header m M) ∧ R = (.inr x, (khp M c, N), 1, 6))
set_option maxHeartbeats 3000000 in
theorem c_rd_header (w : wX) (m : mR) (c : Nat → Option am_C) (N D : Nat) (hD : 10 ≤ D) (hT : KTy m) (pKP : KPp (m.1 203) (m.2 8) (m.2 9) (m.1 214) (m.1 215) (m.1 216) (m.1 217) (m.1 221) (m.1 223) (m.1 219)) (hHB : HBp (m.1 214) (m.2 10)) : TC w D 74 [.ref 178] (khp m c, N) (Q_rd_header m c N) := by
  obtain ⟨D, rfl⟩ : ∃ k, D = k + 1 := ⟨D - 1, by omega⟩
  have f203 : 0 ≤ m.1 203 ∧ m.1 203 ≤ 90 := hT.1 203
  have f206 : (-1) ≤ m.1 206 ∧ m.1 206 ≤ 65535 := hT.1 206
  have f207 : 0 ≤ m.1 207 ∧ m.1 207 ≤ 4001 := hT.1 207
  have f214 : 0 ≤ m.1 214 ∧ m.1 214 ≤ 12 := hT.1 214
  have f213 : 0 ≤ m.1 213 ∧ m.1 213 ≤ 1 := hT.1 213
  have f215 : 0 ≤ m.1 215 ∧ m.1 215 ≤ 12 := hT.1 215
  have f216 : 0 ≤ m.1 216 ∧ m.1 216 ≤ 16 := hT.1 216
  have f217 : 0 ≤ m.1 217 ∧ m.1 217 ≤ 8 := hT.1 217
  have f219 : 0 ≤ m.1 219 ∧ m.1 219 ≤ 8 := hT.1 219
  have f221 : 0 ≤ m.1 221 ∧ m.1 221 ≤ 16 := hT.1 221
  have f223 : 0 ≤ m.1 223 ∧ m.1 223 ≤ 16 := hT.1 223
  refine Tc_of rfl ?_
  rw [show (khp m c, N) = (khp (mO m [] []) c, N) from by rw [mO_nil m]]
  show TT w D pm_74 (0, [(0, .ref 178)], [], (khp (mO m [] []) c, N), 0, 0) (Q_rd_header m c N)
  refine T_ld 1 (.ref 178) rfl (fun _ => rfl) ?_
  refine K_gf 4 (.ref 6) rfl rfl kd_178 rfl rfl rfl ?_
  refine T_callx 7 50 [.ref 6] [] rfl (fun _ => rfl) rfl rfl (c_tx_advance w (mO m [] []) c N D (by omega) hT ) (fun rr1 k2 => ?_)
  rcases k2 with ⟨m3, Tm3, Fm3, h4, rfl⟩ | ⟨xx7, m5, hx6, Tm5, Fm5, rfl⟩
  rotate_left
  · skip
    refine Or.inr ⟨_, _, _, _, rfl, ?_⟩
    exact Or.inr ⟨xx7, (mO m5 [] []), (hx6), Tm5, (fr_m (fr_s Fm5 (fr_m fr_0 rfl rfl) rfl rfl) rfl rfl), rfl⟩
  refine Or.inl ⟨_, _, _, _, rfl, ?_⟩
  refine K_nb (st' := []) rfl ?_
  have g8 : (-1) ≤ m3.1 206 ∧ m3.1 206 ≤ 65535 := Tm3.1 206
  have g9 : 0 ≤ m3.1 207 ∧ m3.1 207 ≤ 4001 := Tm3.1 207
  replace h4 : (m.1 213) = 0 := h4
  refine T_ld 8 (.ref 178) rfl (fun _ => rfl) ?_
  refine K_gf 11 (.ref 12) rfl rfl kd_178 rfl rfl rfl ?_
  refine K_gf 14 (.int (i32 (m.1 214))) rfl rfl kd_12 rfl (kval_c2 (k := 214) (F := fun x => .int (i32 x)) rfl (show (m3.1 214) = (m.1 214) from (fr1 Fm3 214 rfl))) rfl ?_
  refine T_sto 15 [(1, .int (i32 (m.1 214))), (0, .ref 178)] rfl (fun _ => rfl) ?_
  refine T_ld 16 (.ref 178) rfl (fun _ => rfl) ?_
  refine K_gf 19 (.ref 6) rfl rfl kd_178 rfl rfl rfl ?_
  refine K_gf 22 (.int (i32 (m3.1 207))) rfl rfl kd_6 rfl rfl rfl ?_
  refine T_sto 23 [(2, .int (i32 (m3.1 207))), (1, .int (i32 (m.1 214))), (0, .ref 178)] rfl (fun _ => rfl) ?_
  refine T_ld 24 (.ref 178) rfl (fun _ => rfl) ?_
  refine K_gf 27 (.ref 6) rfl rfl kd_178 rfl rfl rfl ?_
  refine T_ld 30 (.int (i32 300)) rfl (fun _ => rfl) ?_
  refine T_ld 31 (.int (i32 (m.1 214))) rfl (fun _ => rfl) ?_
  refine T_ld 33 (.int (i32 12)) rfl (fun _ => rfl) ?_
  refine T_callx 36 75 [.ref 6, .int (i32 300), .int (i32 (m.1 214)), .int (i32 12)] [] rfl (fun _ => rfl) rfl rfl (c_tx_makeNew w (mO m3 [] []) c N D (by omega) Tm3 300 (m.1 214) 12 ⟨by decide, by decide⟩ (r32 (by omega) (by omega)) ⟨by decide, by decide⟩ (show 0 ≤ (300 : Int) ∧ (300 : Int) ≤ 310 by omega) (show 0 ≤ (m.1 214) ∧ (12 : Int) ≤ 16 by omega)) (fun rr10 k11 => ?_)
  rcases k11 with ⟨m12, Tm12, Fm12, h13, h14, h15, rfl⟩ | ⟨xx18, m16, hx17, Tm16, Fm16, rfl⟩
  rotate_left
  · skip
    refine Or.inr ⟨_, _, _, _, rfl, ?_⟩
    exact Or.inr ⟨xx18, (mO m16 [] []), (hx17), Tm16, (fr_m (fr_s Fm16 (fr_m (fr_s Fm3 (fr_m fr_0 rfl rfl) rfl rfl) rfl rfl) rfl rfl) rfl rfl), rfl⟩
  refine Or.inl ⟨_, _, _, _, rfl, ?_⟩
  refine K_nb (st' := []) rfl ?_
  have g19 : 0 ≤ m12.1 203 ∧ m12.1 203 ≤ 90 := Tm12.1 203
  have g20 : (-1) ≤ m12.1 206 ∧ m12.1 206 ≤ 65535 := Tm12.1 206
  have g21 : 0 ≤ m12.1 207 ∧ m12.1 207 ≤ 4001 := Tm12.1 207
  replace h13 : (m.1 214) < (12 : Int) := h13
  replace h14 : KMk (m3.1 203) (m12.1 203) (m3.2 8) (m12.2 8) (m3.2 9) (m12.2 9) (300 : Int) (m.1 214) := h14
  rewrite [(show (m3.1 203) = (m.1 203) from (fr1 Fm3 203 rfl)), (show (m3.2 8) = (m.2 8) from (fr2 Fm3 8 rfl)), (show (m3.2 9) = (m.2 9) from (fr2 Fm3 9 rfl))] at h14
  have hMk := h14
  replace h15 : (m3.1 213) = 0 := h15
  rewrite [(show (m3.1 213) = (m.1 213) from (fr1 Fm3 213 rfl))] at h15
  refine T_ld 37 (.ref 178) rfl (fun _ => rfl) ?_
  refine K_gf 40 (.ref 12) rfl rfl kd_178 rfl rfl rfl ?_
  refine T_ld 41 (.ref 12) rfl (fun _ => rfl) ?_
  refine K_gf 44 (.int (i32 (m.1 214))) rfl rfl kd_12 rfl (kval_c2 (k := 214) (F := fun x => .int (i32 x)) rfl (show (m12.1 214) = (m.1 214) from ((fr1 Fm12 214 rfl).trans (fr1 Fm3 214 rfl)))) rfl ?_
  refine T_ld 45 (.int (i32 1)) rfl (fun _ => rfl) ?_
  refine T_iadd 46 rfl rfl ?_
  refine K_pf (l' := [(214, (m.1 214) + 1)]) 49 ((m.1 214) + 1) rfl rfl kd_12 rfl rfl rfl rfl rfl rfl rfl ?_
  have g22 : 0 ≤ (m.1 214) + 1 ∧ (m.1 214) + 1 ≤ 12 := ⟨by omega, by omega⟩
  have pKP : KPp (m12.1 203) (m12.2 8) (m12.2 9) ((m.1 214) + 1) (m.1 215) (m.1 216) (m.1 217) (m.1 221) (m.1 223) (m.1 219) := KPp_mk pKP hMk (by omega) (by omega) (by omega) (by omega) (by omega) (by omega) (by omega) (by omega)
  refine T_ld 50 (.ref 178) rfl (fun _ => rfl) ?_
  refine K_gf 53 (.ref 6) rfl rfl kd_178 rfl rfl rfl ?_
  refine T_ld 55 (.int (i32 123)) rfl (fun _ => rfl) ?_
  refine T_callx 58 78 [.ref 6, .int (i32 123)] [] rfl (fun _ => rfl) rfl rfl (c_tx_expect w (mO m12 [(214, (m.1 214) + 1)] []) c N D (by omega) (KTy_mO Tm12 rfl rfl ⟨g22, trivial⟩ trivial) 123 ⟨by decide, by decide⟩) (fun rr23 k24 => ?_)
  rcases k24 with ⟨m25, Tm25, Fm25, h26, h27, rfl⟩ | ⟨xx30, m28, hx29, Tm28, Fm28, rfl⟩
  rotate_left
  · skip
    refine Or.inr ⟨_, _, _, _, rfl, ?_⟩
    exact Or.inr ⟨xx30, (mO m28 [] []), (hx29), Tm28, (fr_m (fr_s Fm28 (fr_m (fr_s Fm12 (fr_m (fr_s Fm3 (fr_m fr_0 rfl rfl) rfl rfl) rfl rfl) rfl rfl) rfl rfl) rfl rfl) rfl rfl), rfl⟩
  refine Or.inl ⟨_, _, _, _, rfl, ?_⟩
  refine K_nb (st' := []) rfl ?_
  have g31 : (-1) ≤ m25.1 206 ∧ m25.1 206 ≤ 65535 := Tm25.1 206
  have g32 : 0 ≤ m25.1 207 ∧ m25.1 207 ≤ 4001 := Tm25.1 207
  replace h26 : (m12.1 206) = (123 : Int) := h26
  replace h27 : (m12.1 213) = 0 := h27
  rewrite [(show (m12.1 213) = (m.1 213) from ((fr1 Fm12 213 rfl).trans (fr1 Fm3 213 rfl)))] at h27
  refine T_ld 59 (.int (i32 0)) rfl (fun _ => rfl) ?_
  refine T_sto 60 [(3, .int (i32 0)), (2, .int (i32 (m3.1 207))), (1, .int (i32 (m.1 214))), (0, .ref 178)] rfl (fun _ => rfl) ?_
  have L60_35 : ∀ (n42 : Nat) (v33 : Int) (m34 : mR), (R32 v33) → KTy m34 → fr [205, 206, 207, 208, 209, 210, 211, 212] [10, 11, 12] (mO m25 [] []) m34 → (0 ≤ v33) → (HBp (m.1 214) (m34.2 10)) → (0 ≤ v33 ∧ v33 ≤ 17) → 20 - v33 < (n42 : Int) → TT w D pm_74 (60, [(0, .ref 178), (1, .int (i32 (m.1 214))), (2, .int (i32 (m3.1 207))), (3, .int (i32 v33))], [], (khp (mO m34 [] []) c, N), 0, 0) (Q_rd_header m c N) := by
    intro n42
    induction n42 with
    | zero =>
      intro v33 m34 q39 Tm34 Fm34 ic36 ic37 ic38 hmu
      obtain ⟨q39a, q39b⟩ := id q39
      have q40_206 : (-1) ≤ m34.1 206 ∧ m34.1 206 ≤ 65535 := Tm34.1 206
      have q40_207 : 0 ≤ m34.1 207 ∧ m34.1 207 ≤ 4001 := Tm34.1 207
      have hHB := ic37
      exfalso
      omega
    | succ n42 ih =>
      intro v33 m34 q39 Tm34 Fm34 ic36 ic37 ic38 hmu
      obtain ⟨q39a, q39b⟩ := id q39
      have q40_206 : (-1) ≤ m34.1 206 ∧ m34.1 206 ≤ 65535 := Tm34.1 206
      have q40_207 : 0 ≤ m34.1 207 ∧ m34.1 207 ≤ 4001 := Tm34.1 207
      have hHB := ic37
      have ih43 := ih
      refine T_ld 61 (.int (i32 v33)) rfl (fun _ => rfl) ?_
      refine T_ld 63 (.int (i32 16)) rfl (fun _ => rfl) ?_
      refine T_icmp 95 66 rfl rfl rfl (r32 (by omega) (by omega)) ⟨by decide, by decide⟩ (fun (h44 : (16 : Int) < v33) => ?_) (fun (h44 : ¬ ((16 : Int) < v33)) => ?_)
      · skip
        refine T_ld 96 (.ref 178) rfl (fun _ => rfl) ?_
        refine K_gf 99 (.ref 6) rfl rfl kd_178 rfl rfl rfl ?_
        refine K_gf 102 (.int (i32 (m34.1 206))) rfl rfl kd_6 rfl rfl rfl ?_
        refine T_ld 104 (.int (i32 125)) rfl (fun _ => rfl) ?_
        refine T_icmp 114 107 rfl rfl rfl (r32 (by omega) (by omega)) ⟨by decide, by decide⟩ (fun (h45 : (m34.1 206) = 125) => ?_) (fun (h45 : ¬ ((m34.1 206) = 125)) => ?_)
        · skip
          refine T_ld 115 (.ref 178) rfl (fun _ => rfl) ?_
          refine K_gf 118 (.ref 12) rfl rfl kd_178 rfl rfl rfl ?_
          refine T_ld 119 (.int (i32 (m.1 214))) rfl (fun _ => rfl) ?_
          refine T_callx 122 29 [.ref 12, .int (i32 (m.1 214))] [] rfl (fun _ => rfl) rfl rfl (c_pr_headerBits w (mO m34 [] []) c N D (by omega) Tm34 (m.1 214) (r32 (by omega) (by omega)) (show 0 ≤ (m.1 214) ∧ (m.1 214) ≤ 11 by omega)) (fun rr46 k47 => ?_)
          obtain ⟨hbr, g48, h49, rfl⟩ := k47
          refine Or.inl ⟨_, _, _, _, rfl, ?_⟩
          refine T_ns (st' := [.int (i32 hbr)]) rfl ?_
          obtain ⟨g48a, g48b⟩ := g48
          replace h49 : hbr = hb (m34.2 10) (m.1 214) 16 := h49
          have hHr := h49
          refine T_sto 123 [(3, .int (i32 hbr)), (0, .ref 178), (1, .int (i32 (m.1 214))), (2, .int (i32 (m3.1 207)))] rfl (fun _ => rfl) ?_
          refine T_ld 124 (.int (i32 hbr)) rfl (fun _ => rfl) ?_
          refine T_ld 126 (.int (i32 8)) rfl (fun _ => rfl) ?_
          refine T_irem 127 rfl rfl (by omega) (by omega) (by omega) (by omega) ?_
          refine T_if 137 130 rfl rfl rfl (r32 (by omega) (by omega)) (fun (h50 : hbr % 8 ≠ 0) => ?_) (fun (h50 : ¬ (hbr % 8 ≠ 0)) => ?_)
          · skip
            refine T_ld 138 (.ref 178) rfl (fun _ => rfl) ?_
            refine K_gf 141 (.ref 6) rfl rfl kd_178 rfl rfl rfl ?_
            refine T_ld 143 (.int (i32 8)) rfl (fun _ => rfl) ?_
            refine T_ld 144 (.int (i32 (m3.1 207))) rfl (fun _ => rfl) ?_
            refine T_callx 147 51 [.ref 6, .int (i32 8), .int (i32 (m3.1 207))] [] rfl (fun _ => rfl) rfl rfl (c_tx_fail w (mO m34 [] []) c N D (by omega) Tm34 8 (m3.1 207) ⟨by decide, by decide⟩ (r32 (by omega) (by omega)) (show 1 ≤ (8 : Int) ∧ (8 : Int) ≤ 8 by omega) (show 0 ≤ (m3.1 207) ∧ (m3.1 207) ≤ 4001 by omega)) (fun rr51 k52 => ?_)
            rcases k52 with ⟨m53, Tm53, Fm53, h54, rfl⟩ | ⟨xx57, m55, hx56, Tm55, Fm55, rfl⟩
            rotate_left
            · skip
              refine Or.inr ⟨_, _, _, _, rfl, ?_⟩
              exact Or.inr ⟨xx57, (mO m55 [] []), (hx56), Tm55, (fr_m (fr_s Fm55 (fr_m (fr_s Fm34 (fr_m (fr_s Fm25 (fr_m (fr_s Fm12 (fr_m (fr_s Fm3 (fr_m fr_0 rfl rfl) rfl rfl) rfl rfl) rfl rfl) rfl rfl) rfl rfl) rfl rfl) rfl rfl) rfl rfl) rfl rfl) rfl rfl), rfl⟩
            exact h54.elim
          · skip
            refine T_ld 131 (.int (i32 hbr)) rfl (fun _ => rfl) ?_
            refine T_ld 134 (.int (i32 512)) rfl (fun _ => rfl) ?_
            refine T_icmp 147 137 rfl rfl rfl (r32 (by omega) (by omega)) ⟨by decide, by decide⟩ (fun (h58 : hbr ≤ 512) => ?_) (fun (h58 : ¬ (hbr ≤ 512)) => ?_)
            · skip
              have hHB : HBp ((m.1 214) + 1) (m34.2 10) := HB_new hHB (by omega) (by omega)
              refine T_ld 148 (.ref 178) rfl (fun _ => rfl) ?_
              refine K_gf 151 (.ref 6) rfl rfl kd_178 rfl rfl rfl ?_
              refine T_callx 154 50 [.ref 6] [] rfl (fun _ => rfl) rfl rfl (c_tx_advance w (mO m34 [] []) c N D (by omega) Tm34 ) (fun rr59 k60 => ?_)
              rcases k60 with ⟨m61, Tm61, Fm61, h62, rfl⟩ | ⟨xx65, m63, hx64, Tm63, Fm63, rfl⟩
              rotate_left
              · skip
                refine Or.inr ⟨_, _, _, _, rfl, ?_⟩
                exact Or.inr ⟨xx65, (mO m63 [] []), (hx64), Tm63, (fr_m (fr_s Fm63 (fr_m (fr_s Fm34 (fr_m (fr_s Fm25 (fr_m (fr_s Fm12 (fr_m (fr_s Fm3 (fr_m fr_0 rfl rfl) rfl rfl) rfl rfl) rfl rfl) rfl rfl) rfl rfl) rfl rfl) rfl rfl) rfl rfl) rfl rfl) rfl rfl), rfl⟩
              refine Or.inl ⟨_, _, _, _, rfl, ?_⟩
              refine K_nb (st' := []) rfl ?_
              have g66 : (-1) ≤ m61.1 206 ∧ m61.1 206 ≤ 65535 := Tm61.1 206
              have g67 : 0 ≤ m61.1 207 ∧ m61.1 207 ≤ 4001 := Tm61.1 207
              replace h62 : (m34.1 213) = 0 := h62
              rewrite [(show (m34.1 213) = (m.1 213) from ((fr1 Fm34 213 rfl).trans ((fr1 Fm25 213 rfl).trans ((fr1 Fm12 213 rfl).trans (fr1 Fm3 213 rfl)))))] at h62
              refine T_ret rfl (fun _ => rfl) ?_
              exact Or.inl ⟨(mO m61 [] []), Tm61, (fr_m (fr_s Fm61 (fr_m (fr_s Fm34 (fr_m (fr_s Fm25 (fr_m (fr_s Fm12 (fr_m (fr_s Fm3 (fr_m fr_0 rfl rfl) rfl rfl) rfl rfl) rfl rfl) rfl rfl) rfl rfl) rfl rfl) rfl rfl) rfl rfl) rfl rfl) rfl rfl), (show KPp (m61.1 203) (m61.2 8) (m61.2 9) (m61.1 214) (m.1 215) (m.1 216) (m.1 217) (m.1 221) (m.1 223) (m.1 219) by rewrite [(show (m61.1 203) = (m12.1 203) from ((fr1 Fm61 203 rfl).trans ((fr1 Fm34 203 rfl).trans (fr1 Fm25 203 rfl)))), (show (m61.2 8) = (m12.2 8) from ((fr2 Fm61 8 rfl).trans ((fr2 Fm34 8 rfl).trans (fr2 Fm25 8 rfl)))), (show (m61.2 9) = (m12.2 9) from ((fr2 Fm61 9 rfl).trans ((fr2 Fm34 9 rfl).trans (fr2 Fm25 9 rfl)))), (show (m61.1 214) = ((m.1 214) + 1) from ((fr1 Fm61 214 rfl).trans ((fr1 Fm34 214 rfl).trans (fr1 Fm25 214 rfl))))]; first | (exact pKP) | (exfalso; omega)), (show HBp (m61.1 214) (m61.2 10) by rewrite [(show (m61.1 214) = ((m.1 214) + 1) from ((fr1 Fm61 214 rfl).trans ((fr1 Fm34 214 rfl).trans (fr1 Fm25 214 rfl)))), (show (m61.2 10) = (m34.2 10) from (fr2 Fm61 10 rfl))]; first | (exact hHB) | (exfalso; omega)), (show (m.1 214) ≤ (m61.1 214) by rewrite [(show (m61.1 214) = ((m.1 214) + 1) from ((fr1 Fm61 214 rfl).trans ((fr1 Fm34 214 rfl).trans (fr1 Fm25 214 rfl))))]; omega), rfl⟩
            · skip
              refine T_ld 138 (.ref 178) rfl (fun _ => rfl) ?_
              refine K_gf 141 (.ref 6) rfl rfl kd_178 rfl rfl rfl ?_
              refine T_ld 143 (.int (i32 8)) rfl (fun _ => rfl) ?_
              refine T_ld 144 (.int (i32 (m3.1 207))) rfl (fun _ => rfl) ?_
              refine T_callx 147 51 [.ref 6, .int (i32 8), .int (i32 (m3.1 207))] [] rfl (fun _ => rfl) rfl rfl (c_tx_fail w (mO m34 [] []) c N D (by omega) Tm34 8 (m3.1 207) ⟨by decide, by decide⟩ (r32 (by omega) (by omega)) (show 1 ≤ (8 : Int) ∧ (8 : Int) ≤ 8 by omega) (show 0 ≤ (m3.1 207) ∧ (m3.1 207) ≤ 4001 by omega)) (fun rr68 k69 => ?_)
              rcases k69 with ⟨m70, Tm70, Fm70, h71, rfl⟩ | ⟨xx74, m72, hx73, Tm72, Fm72, rfl⟩
              rotate_left
              · skip
                refine Or.inr ⟨_, _, _, _, rfl, ?_⟩
                exact Or.inr ⟨xx74, (mO m72 [] []), (hx73), Tm72, (fr_m (fr_s Fm72 (fr_m (fr_s Fm34 (fr_m (fr_s Fm25 (fr_m (fr_s Fm12 (fr_m (fr_s Fm3 (fr_m fr_0 rfl rfl) rfl rfl) rfl rfl) rfl rfl) rfl rfl) rfl rfl) rfl rfl) rfl rfl) rfl rfl) rfl rfl) rfl rfl), rfl⟩
              exact h71.elim
        · skip
          refine T_ld 108 (.ref 178) rfl (fun _ => rfl) ?_
          refine K_gf 111 (.ref 6) rfl rfl kd_178 rfl rfl rfl ?_
          refine T_callx 114 76 [.ref 6] [] rfl (fun _ => rfl) rfl rfl (c_tx_refuse w (mO m34 [] []) c N D (by omega) Tm34 ) (fun rr75 k76 => ?_)
          rcases k76 with ⟨m77, Tm77, Fm77, h78, rfl⟩ | ⟨xx81, m79, hx80, Tm79, Fm79, rfl⟩
          rotate_left
          · skip
            refine Or.inr ⟨_, _, _, _, rfl, ?_⟩
            exact Or.inr ⟨xx81, (mO m79 [] []), (hx80), Tm79, (fr_m (fr_s Fm79 (fr_m (fr_s Fm34 (fr_m (fr_s Fm25 (fr_m (fr_s Fm12 (fr_m (fr_s Fm3 (fr_m fr_0 rfl rfl) rfl rfl) rfl rfl) rfl rfl) rfl rfl) rfl rfl) rfl rfl) rfl rfl) rfl rfl) rfl rfl) rfl rfl), rfl⟩
          exact h78.elim
      · skip
        refine T_ld 67 (.int (i32 v33)) rfl (fun _ => rfl) ?_
        refine T_if 83 70 rfl rfl rfl (r32 (by omega) (by omega)) (fun (h82 : v33 = 0) => ?_) (fun (h82 : ¬ (v33 = 0)) => ?_)
        · skip
          refine T_ld 84 (.ref 178) rfl (fun _ => rfl) ?_
          refine T_ld 85 (.int (i32 (m.1 214))) rfl (fun _ => rfl) ?_
          refine T_ld 86 (.int (i32 v33)) rfl (fun _ => rfl) ?_
          refine T_callx 89 79 [.ref 178, .int (i32 (m.1 214)), .int (i32 v33)] [] rfl (fun _ => rfl) rfl rfl (c_rd_field w (mO m34 [] []) c N D (by omega) Tm34 (m.1 214) v33 (r32 (by omega) (by omega)) (r32 (by omega) (by omega)) (show 0 ≤ (m.1 214) ∧ (m.1 214) ≤ 11 by omega) (show 0 ≤ v33 ∧ v33 ≤ 16 by omega) (show HBp (m.1 214) (m34.2 10) by exact hHB)) (fun rr83 k84 => ?_)
          rcases k84 with ⟨m85, Tm85, Fm85, h86, rfl⟩ | ⟨xx89, m87, hx88, Tm87, Fm87, rfl⟩
          rotate_left
          · skip
            refine Or.inr ⟨_, _, _, _, rfl, ?_⟩
            exact Or.inr ⟨xx89, (mO m87 [] []), (hx88), Tm87, (fr_m (fr_s Fm87 (fr_m (fr_s Fm34 (fr_m (fr_s Fm25 (fr_m (fr_s Fm12 (fr_m (fr_s Fm3 (fr_m fr_0 rfl rfl) rfl rfl) rfl rfl) rfl rfl) rfl rfl) rfl rfl) rfl rfl) rfl rfl) rfl rfl) rfl rfl) rfl rfl), rfl⟩
          refine Or.inl ⟨_, _, _, _, rfl, ?_⟩
          refine K_nb (st' := []) rfl ?_
          have g90 : (-1) ≤ m85.1 206 ∧ m85.1 206 ≤ 65535 := Tm85.1 206
          have g91 : 0 ≤ m85.1 207 ∧ m85.1 207 ≤ 4001 := Tm85.1 207
          replace h86 : HBp (m.1 214) (m85.2 10) := h86
          have hHB := h86
          refine T_iinc 92 [(3, .int (i32 (v33 + 1))), (0, .ref 178), (1, .int (i32 (m.1 214))), (2, .int (i32 (m3.1 207)))] rfl rfl (by decide) rfl rfl ?_
          refine T_goto 60 rfl (fun _ => rfl) ?_
          refine Tm_lv (a := [(0, .ref 178), (1, .int (i32 (m.1 214))), (2, .int (i32 (m3.1 207))), (3, .int (i32 (v33 + 1)))]) rfl rfl ⟨rfl, rfl, rfl, rfl, trivial⟩ ?_
          exact ih43 (v33 + 1) (mO m85 [] []) (r32 (by omega) (by omega)) Tm85 (fr_m (fr_s Fm85 (fr_m (fr_s Fm34 (fr_m fr_0 rfl rfl) rfl rfl) rfl rfl) rfl rfl) rfl rfl) (show 0 ≤ (v33 + 1) by omega) (show HBp (m.1 214) (m85.2 10) by exact hHB) (show 0 ≤ (v33 + 1) ∧ (v33 + 1) ≤ 17 by omega) (show 20 - (v33 + 1) < (n42 : Int) by omega)
        · skip
          refine T_ld 71 (.ref 178) rfl (fun _ => rfl) ?_
          refine K_gf 74 (.ref 6) rfl rfl kd_178 rfl rfl rfl ?_
          refine K_gf 77 (.int (i32 (m34.1 206))) rfl rfl kd_6 rfl rfl rfl ?_
          refine T_ld 80 (.int (i32 256)) rfl (fun _ => rfl) ?_
          refine T_icmp 95 83 rfl rfl rfl (r32 (by omega) (by omega)) ⟨by decide, by decide⟩ (fun (h92 : (m34.1 206) ≠ 256) => ?_) (fun (h92 : ¬ ((m34.1 206) ≠ 256)) => ?_)
          · skip
            refine T_ld 96 (.ref 178) rfl (fun _ => rfl) ?_
            refine K_gf 99 (.ref 6) rfl rfl kd_178 rfl rfl rfl ?_
            refine K_gf 102 (.int (i32 (m34.1 206))) rfl rfl kd_6 rfl rfl rfl ?_
            refine T_ld 104 (.int (i32 125)) rfl (fun _ => rfl) ?_
            refine T_icmp 114 107 rfl rfl rfl (r32 (by omega) (by omega)) ⟨by decide, by decide⟩ (fun (h93 : (m34.1 206) = 125) => ?_) (fun (h93 : ¬ ((m34.1 206) = 125)) => ?_)
            · skip
              refine T_ld 115 (.ref 178) rfl (fun _ => rfl) ?_
              refine K_gf 118 (.ref 12) rfl rfl kd_178 rfl rfl rfl ?_
              refine T_ld 119 (.int (i32 (m.1 214))) rfl (fun _ => rfl) ?_
              refine T_callx 122 29 [.ref 12, .int (i32 (m.1 214))] [] rfl (fun _ => rfl) rfl rfl (c_pr_headerBits w (mO m34 [] []) c N D (by omega) Tm34 (m.1 214) (r32 (by omega) (by omega)) (show 0 ≤ (m.1 214) ∧ (m.1 214) ≤ 11 by omega)) (fun rr94 k95 => ?_)
              obtain ⟨hbr, g96, h97, rfl⟩ := k95
              refine Or.inl ⟨_, _, _, _, rfl, ?_⟩
              refine T_ns (st' := [.int (i32 hbr)]) rfl ?_
              obtain ⟨g96a, g96b⟩ := g96
              replace h97 : hbr = hb (m34.2 10) (m.1 214) 16 := h97
              have hHr := h97
              refine T_sto 123 [(3, .int (i32 hbr)), (0, .ref 178), (1, .int (i32 (m.1 214))), (2, .int (i32 (m3.1 207)))] rfl (fun _ => rfl) ?_
              refine T_ld 124 (.int (i32 hbr)) rfl (fun _ => rfl) ?_
              refine T_ld 126 (.int (i32 8)) rfl (fun _ => rfl) ?_
              refine T_irem 127 rfl rfl (by omega) (by omega) (by omega) (by omega) ?_
              refine T_if 137 130 rfl rfl rfl (r32 (by omega) (by omega)) (fun (h98 : hbr % 8 ≠ 0) => ?_) (fun (h98 : ¬ (hbr % 8 ≠ 0)) => ?_)
              · skip
                refine T_ld 138 (.ref 178) rfl (fun _ => rfl) ?_
                refine K_gf 141 (.ref 6) rfl rfl kd_178 rfl rfl rfl ?_
                refine T_ld 143 (.int (i32 8)) rfl (fun _ => rfl) ?_
                refine T_ld 144 (.int (i32 (m3.1 207))) rfl (fun _ => rfl) ?_
                refine T_callx 147 51 [.ref 6, .int (i32 8), .int (i32 (m3.1 207))] [] rfl (fun _ => rfl) rfl rfl (c_tx_fail w (mO m34 [] []) c N D (by omega) Tm34 8 (m3.1 207) ⟨by decide, by decide⟩ (r32 (by omega) (by omega)) (show 1 ≤ (8 : Int) ∧ (8 : Int) ≤ 8 by omega) (show 0 ≤ (m3.1 207) ∧ (m3.1 207) ≤ 4001 by omega)) (fun rr99 k100 => ?_)
                rcases k100 with ⟨m101, Tm101, Fm101, h102, rfl⟩ | ⟨xx105, m103, hx104, Tm103, Fm103, rfl⟩
                rotate_left
                · skip
                  refine Or.inr ⟨_, _, _, _, rfl, ?_⟩
                  exact Or.inr ⟨xx105, (mO m103 [] []), (hx104), Tm103, (fr_m (fr_s Fm103 (fr_m (fr_s Fm34 (fr_m (fr_s Fm25 (fr_m (fr_s Fm12 (fr_m (fr_s Fm3 (fr_m fr_0 rfl rfl) rfl rfl) rfl rfl) rfl rfl) rfl rfl) rfl rfl) rfl rfl) rfl rfl) rfl rfl) rfl rfl) rfl rfl), rfl⟩
                exact h102.elim
              · skip
                refine T_ld 131 (.int (i32 hbr)) rfl (fun _ => rfl) ?_
                refine T_ld 134 (.int (i32 512)) rfl (fun _ => rfl) ?_
                refine T_icmp 147 137 rfl rfl rfl (r32 (by omega) (by omega)) ⟨by decide, by decide⟩ (fun (h106 : hbr ≤ 512) => ?_) (fun (h106 : ¬ (hbr ≤ 512)) => ?_)
                · skip
                  have hHB : HBp ((m.1 214) + 1) (m34.2 10) := HB_new hHB (by omega) (by omega)
                  refine T_ld 148 (.ref 178) rfl (fun _ => rfl) ?_
                  refine K_gf 151 (.ref 6) rfl rfl kd_178 rfl rfl rfl ?_
                  refine T_callx 154 50 [.ref 6] [] rfl (fun _ => rfl) rfl rfl (c_tx_advance w (mO m34 [] []) c N D (by omega) Tm34 ) (fun rr107 k108 => ?_)
                  rcases k108 with ⟨m109, Tm109, Fm109, h110, rfl⟩ | ⟨xx113, m111, hx112, Tm111, Fm111, rfl⟩
                  rotate_left
                  · skip
                    refine Or.inr ⟨_, _, _, _, rfl, ?_⟩
                    exact Or.inr ⟨xx113, (mO m111 [] []), (hx112), Tm111, (fr_m (fr_s Fm111 (fr_m (fr_s Fm34 (fr_m (fr_s Fm25 (fr_m (fr_s Fm12 (fr_m (fr_s Fm3 (fr_m fr_0 rfl rfl) rfl rfl) rfl rfl) rfl rfl) rfl rfl) rfl rfl) rfl rfl) rfl rfl) rfl rfl) rfl rfl) rfl rfl), rfl⟩
                  refine Or.inl ⟨_, _, _, _, rfl, ?_⟩
                  refine K_nb (st' := []) rfl ?_
                  have g114 : (-1) ≤ m109.1 206 ∧ m109.1 206 ≤ 65535 := Tm109.1 206
                  have g115 : 0 ≤ m109.1 207 ∧ m109.1 207 ≤ 4001 := Tm109.1 207
                  replace h110 : (m34.1 213) = 0 := h110
                  rewrite [(show (m34.1 213) = (m.1 213) from ((fr1 Fm34 213 rfl).trans ((fr1 Fm25 213 rfl).trans ((fr1 Fm12 213 rfl).trans (fr1 Fm3 213 rfl)))))] at h110
                  refine T_ret rfl (fun _ => rfl) ?_
                  exact Or.inl ⟨(mO m109 [] []), Tm109, (fr_m (fr_s Fm109 (fr_m (fr_s Fm34 (fr_m (fr_s Fm25 (fr_m (fr_s Fm12 (fr_m (fr_s Fm3 (fr_m fr_0 rfl rfl) rfl rfl) rfl rfl) rfl rfl) rfl rfl) rfl rfl) rfl rfl) rfl rfl) rfl rfl) rfl rfl) rfl rfl), (show KPp (m109.1 203) (m109.2 8) (m109.2 9) (m109.1 214) (m.1 215) (m.1 216) (m.1 217) (m.1 221) (m.1 223) (m.1 219) by rewrite [(show (m109.1 203) = (m12.1 203) from ((fr1 Fm109 203 rfl).trans ((fr1 Fm34 203 rfl).trans (fr1 Fm25 203 rfl)))), (show (m109.2 8) = (m12.2 8) from ((fr2 Fm109 8 rfl).trans ((fr2 Fm34 8 rfl).trans (fr2 Fm25 8 rfl)))), (show (m109.2 9) = (m12.2 9) from ((fr2 Fm109 9 rfl).trans ((fr2 Fm34 9 rfl).trans (fr2 Fm25 9 rfl)))), (show (m109.1 214) = ((m.1 214) + 1) from ((fr1 Fm109 214 rfl).trans ((fr1 Fm34 214 rfl).trans (fr1 Fm25 214 rfl))))]; first | (exact pKP) | (exfalso; omega)), (show HBp (m109.1 214) (m109.2 10) by rewrite [(show (m109.1 214) = ((m.1 214) + 1) from ((fr1 Fm109 214 rfl).trans ((fr1 Fm34 214 rfl).trans (fr1 Fm25 214 rfl)))), (show (m109.2 10) = (m34.2 10) from (fr2 Fm109 10 rfl))]; first | (exact hHB) | (exfalso; omega)), (show (m.1 214) ≤ (m109.1 214) by rewrite [(show (m109.1 214) = ((m.1 214) + 1) from ((fr1 Fm109 214 rfl).trans ((fr1 Fm34 214 rfl).trans (fr1 Fm25 214 rfl))))]; omega), rfl⟩
                · skip
                  refine T_ld 138 (.ref 178) rfl (fun _ => rfl) ?_
                  refine K_gf 141 (.ref 6) rfl rfl kd_178 rfl rfl rfl ?_
                  refine T_ld 143 (.int (i32 8)) rfl (fun _ => rfl) ?_
                  refine T_ld 144 (.int (i32 (m3.1 207))) rfl (fun _ => rfl) ?_
                  refine T_callx 147 51 [.ref 6, .int (i32 8), .int (i32 (m3.1 207))] [] rfl (fun _ => rfl) rfl rfl (c_tx_fail w (mO m34 [] []) c N D (by omega) Tm34 8 (m3.1 207) ⟨by decide, by decide⟩ (r32 (by omega) (by omega)) (show 1 ≤ (8 : Int) ∧ (8 : Int) ≤ 8 by omega) (show 0 ≤ (m3.1 207) ∧ (m3.1 207) ≤ 4001 by omega)) (fun rr116 k117 => ?_)
                  rcases k117 with ⟨m118, Tm118, Fm118, h119, rfl⟩ | ⟨xx122, m120, hx121, Tm120, Fm120, rfl⟩
                  rotate_left
                  · skip
                    refine Or.inr ⟨_, _, _, _, rfl, ?_⟩
                    exact Or.inr ⟨xx122, (mO m120 [] []), (hx121), Tm120, (fr_m (fr_s Fm120 (fr_m (fr_s Fm34 (fr_m (fr_s Fm25 (fr_m (fr_s Fm12 (fr_m (fr_s Fm3 (fr_m fr_0 rfl rfl) rfl rfl) rfl rfl) rfl rfl) rfl rfl) rfl rfl) rfl rfl) rfl rfl) rfl rfl) rfl rfl) rfl rfl), rfl⟩
                  exact h119.elim
            · skip
              refine T_ld 108 (.ref 178) rfl (fun _ => rfl) ?_
              refine K_gf 111 (.ref 6) rfl rfl kd_178 rfl rfl rfl ?_
              refine T_callx 114 76 [.ref 6] [] rfl (fun _ => rfl) rfl rfl (c_tx_refuse w (mO m34 [] []) c N D (by omega) Tm34 ) (fun rr123 k124 => ?_)
              rcases k124 with ⟨m125, Tm125, Fm125, h126, rfl⟩ | ⟨xx129, m127, hx128, Tm127, Fm127, rfl⟩
              rotate_left
              · skip
                refine Or.inr ⟨_, _, _, _, rfl, ?_⟩
                exact Or.inr ⟨xx129, (mO m127 [] []), (hx128), Tm127, (fr_m (fr_s Fm127 (fr_m (fr_s Fm34 (fr_m (fr_s Fm25 (fr_m (fr_s Fm12 (fr_m (fr_s Fm3 (fr_m fr_0 rfl rfl) rfl rfl) rfl rfl) rfl rfl) rfl rfl) rfl rfl) rfl rfl) rfl rfl) rfl rfl) rfl rfl) rfl rfl), rfl⟩
              exact h126.elim
          · skip
            refine T_ld 84 (.ref 178) rfl (fun _ => rfl) ?_
            refine T_ld 85 (.int (i32 (m.1 214))) rfl (fun _ => rfl) ?_
            refine T_ld 86 (.int (i32 v33)) rfl (fun _ => rfl) ?_
            refine T_callx 89 79 [.ref 178, .int (i32 (m.1 214)), .int (i32 v33)] [] rfl (fun _ => rfl) rfl rfl (c_rd_field w (mO m34 [] []) c N D (by omega) Tm34 (m.1 214) v33 (r32 (by omega) (by omega)) (r32 (by omega) (by omega)) (show 0 ≤ (m.1 214) ∧ (m.1 214) ≤ 11 by omega) (show 0 ≤ v33 ∧ v33 ≤ 16 by omega) (show HBp (m.1 214) (m34.2 10) by exact hHB)) (fun rr130 k131 => ?_)
            rcases k131 with ⟨m132, Tm132, Fm132, h133, rfl⟩ | ⟨xx136, m134, hx135, Tm134, Fm134, rfl⟩
            rotate_left
            · skip
              refine Or.inr ⟨_, _, _, _, rfl, ?_⟩
              exact Or.inr ⟨xx136, (mO m134 [] []), (hx135), Tm134, (fr_m (fr_s Fm134 (fr_m (fr_s Fm34 (fr_m (fr_s Fm25 (fr_m (fr_s Fm12 (fr_m (fr_s Fm3 (fr_m fr_0 rfl rfl) rfl rfl) rfl rfl) rfl rfl) rfl rfl) rfl rfl) rfl rfl) rfl rfl) rfl rfl) rfl rfl) rfl rfl), rfl⟩
            refine Or.inl ⟨_, _, _, _, rfl, ?_⟩
            refine K_nb (st' := []) rfl ?_
            have g137 : (-1) ≤ m132.1 206 ∧ m132.1 206 ≤ 65535 := Tm132.1 206
            have g138 : 0 ≤ m132.1 207 ∧ m132.1 207 ≤ 4001 := Tm132.1 207
            replace h133 : HBp (m.1 214) (m132.2 10) := h133
            have hHB := h133
            refine T_iinc 92 [(3, .int (i32 (v33 + 1))), (0, .ref 178), (1, .int (i32 (m.1 214))), (2, .int (i32 (m3.1 207)))] rfl rfl (by decide) rfl rfl ?_
            refine T_goto 60 rfl (fun _ => rfl) ?_
            refine Tm_lv (a := [(0, .ref 178), (1, .int (i32 (m.1 214))), (2, .int (i32 (m3.1 207))), (3, .int (i32 (v33 + 1)))]) rfl rfl ⟨rfl, rfl, rfl, rfl, trivial⟩ ?_
            exact ih43 (v33 + 1) (mO m132 [] []) (r32 (by omega) (by omega)) Tm132 (fr_m (fr_s Fm132 (fr_m (fr_s Fm34 (fr_m fr_0 rfl rfl) rfl rfl) rfl rfl) rfl rfl) rfl rfl) (show 0 ≤ (v33 + 1) by omega) (show HBp (m.1 214) (m132.2 10) by exact hHB) (show 0 ≤ (v33 + 1) ∧ (v33 + 1) ≤ 17 by omega) (show 20 - (v33 + 1) < (n42 : Int) by omega)
  refine Tm_lv (a := [(0, .ref 178), (1, .int (i32 (m.1 214))), (2, .int (i32 (m3.1 207))), (3, .int (i32 0))]) rfl rfl ⟨rfl, rfl, rfl, rfl, trivial⟩ ?_
  exact L60_35 ((20 - (0 : Int) : Int) + 1).toNat 0 (mO m25 [] []) ⟨by decide, by decide⟩ Tm25 (fr_m fr_0 rfl rfl) (show 0 ≤ (0 : Int) by omega) (show HBp (m.1 214) (m25.2 10) by rewrite [(show (m25.2 10) = (m.2 10) from ((fr2 Fm25 10 rfl).trans ((fr2 Fm12 10 rfl).trans (fr2 Fm3 10 rfl))))]; exact hHB) (show 0 ≤ (0 : Int) ∧ (0 : Int) ≤ 17 by omega) (show 20 - (0 : Int) < ((((20 - (0 : Int) : Int) + 1).toNat : Nat) : Int) by omega)
def fF_rd_instance : List Nat := [203, 205, 206, 207, 208, 209, 210, 211, 212, 215]
def fA_rd_instance : List Nat := [6, 7, 8, 9, 13]
def Q_rd_instance (m : mR) (c : Nat → Option am_C) (N : Nat) : ag_Re af_T → Prop := fun R => (∃ (M : mR), KTy M ∧ fr fF_rd_instance fA_rd_instance m M ∧ (KPp (M.1 203) (M.2 8) (M.2 9) (m.1 214) (M.1 215) (m.1 216) (m.1 217) (m.1 221) (m.1 223) (m.1 219)) ∧ (IHp (M.1 215) (M.2 13) (m.1 214)) ∧ R = (.inl (none), (khp M c, N), 0, 0)) ∨ (∃ (x : Nat) (M : mR), (x = 0) ∧ (KTy M) ∧ (fr fF_rd_instance fA_rd_instance m M) ∧ R = (.inr x, (khp M c, N), 1, 6))
set_option maxHeartbeats 3000000 in
theorem c_rd_instance (w : wX) (m : mR) (c : Nat → Option am_C) (N D : Nat) (hD : 9 ≤ D) (hT : KTy m) (pKP : KPp (m.1 203) (m.2 8) (m.2 9) (m.1 214) (m.1 215) (m.1 216) (m.1 217) (m.1 221) (m.1 223) (m.1 219)) (hIH : IHp (m.1 215) (m.2 13) (m.1 214)) : TC w D 82 [.ref 178] (khp m c, N) (Q_rd_instance m c N) := by
  obtain ⟨D, rfl⟩ : ∃ k, D = k + 1 := ⟨D - 1, by omega⟩
  have f203 : 0 ≤ m.1 203 ∧ m.1 203 ≤ 90 := hT.1 203
  have f206 : (-1) ≤ m.1 206 ∧ m.1 206 ≤ 65535 := hT.1 206
  have f215 : 0 ≤ m.1 215 ∧ m.1 215 ≤ 12 := hT.1 215
  have f213 : 0 ≤ m.1 213 ∧ m.1 213 ≤ 1 := hT.1 213
  have f214 : 0 ≤ m.1 214 ∧ m.1 214 ≤ 12 := hT.1 214
  have f216 : 0 ≤ m.1 216 ∧ m.1 216 ≤ 16 := hT.1 216
  have f217 : 0 ≤ m.1 217 ∧ m.1 217 ≤ 8 := hT.1 217
  have f219 : 0 ≤ m.1 219 ∧ m.1 219 ≤ 8 := hT.1 219
  have f221 : 0 ≤ m.1 221 ∧ m.1 221 ≤ 16 := hT.1 221
  have f223 : 0 ≤ m.1 223 ∧ m.1 223 ≤ 16 := hT.1 223
  refine Tc_of rfl ?_
  rw [show (khp m c, N) = (khp (mO m [] []) c, N) from by rw [mO_nil m]]
  show TT w D pm_82 (0, [(0, .ref 178)], [], (khp (mO m [] []) c, N), 0, 0) (Q_rd_instance m c N)
  refine T_ld 1 (.ref 178) rfl (fun _ => rfl) ?_
  refine K_gf 4 (.ref 6) rfl rfl kd_178 rfl rfl rfl ?_
  refine T_callx 7 50 [.ref 6] [] rfl (fun _ => rfl) rfl rfl (c_tx_advance w (mO m [] []) c N D (by omega) hT ) (fun rr1 k2 => ?_)
  rcases k2 with ⟨m3, Tm3, Fm3, h4, rfl⟩ | ⟨xx7, m5, hx6, Tm5, Fm5, rfl⟩
  rotate_left
  · skip
    refine Or.inr ⟨_, _, _, _, rfl, ?_⟩
    exact Or.inr ⟨xx7, (mO m5 [] []), (hx6), Tm5, (fr_m (fr_s Fm5 (fr_m fr_0 rfl rfl) rfl rfl) rfl rfl), rfl⟩
  refine Or.inl ⟨_, _, _, _, rfl, ?_⟩
  refine K_nb (st' := []) rfl ?_
  have g8 : (-1) ≤ m3.1 206 ∧ m3.1 206 ≤ 65535 := Tm3.1 206
  replace h4 : (m.1 213) = 0 := h4
  refine T_ld 8 (.ref 178) rfl (fun _ => rfl) ?_
  refine K_gf 11 (.ref 12) rfl rfl kd_178 rfl rfl rfl ?_
  refine K_gf 14 (.int (i32 (m.1 215))) rfl rfl kd_12 rfl (kval_c2 (k := 215) (F := fun x => .int (i32 x)) rfl (show (m3.1 215) = (m.1 215) from (fr1 Fm3 215 rfl))) rfl ?_
  refine T_sto 15 [(1, .int (i32 (m.1 215))), (0, .ref 178)] rfl (fun _ => rfl) ?_
  refine T_ld 16 (.ref 178) rfl (fun _ => rfl) ?_
  refine K_gf 19 (.ref 6) rfl rfl kd_178 rfl rfl rfl ?_
  refine T_ld 22 (.int (i32 301)) rfl (fun _ => rfl) ?_
  refine T_ld 23 (.int (i32 (m.1 215))) rfl (fun _ => rfl) ?_
  refine T_ld 25 (.int (i32 12)) rfl (fun _ => rfl) ?_
  refine T_callx 28 75 [.ref 6, .int (i32 301), .int (i32 (m.1 215)), .int (i32 12)] [] rfl (fun _ => rfl) rfl rfl (c_tx_makeNew w (mO m3 [] []) c N D (by omega) Tm3 301 (m.1 215) 12 ⟨by decide, by decide⟩ (r32 (by omega) (by omega)) ⟨by decide, by decide⟩ (show 0 ≤ (301 : Int) ∧ (301 : Int) ≤ 310 by omega) (show 0 ≤ (m.1 215) ∧ (12 : Int) ≤ 16 by omega)) (fun rr9 k10 => ?_)
  rcases k10 with ⟨m11, Tm11, Fm11, h12, h13, h14, rfl⟩ | ⟨xx17, m15, hx16, Tm15, Fm15, rfl⟩
  rotate_left
  · skip
    refine Or.inr ⟨_, _, _, _, rfl, ?_⟩
    exact Or.inr ⟨xx17, (mO m15 [] []), (hx16), Tm15, (fr_m (fr_s Fm15 (fr_m (fr_s Fm3 (fr_m fr_0 rfl rfl) rfl rfl) rfl rfl) rfl rfl) rfl rfl), rfl⟩
  refine Or.inl ⟨_, _, _, _, rfl, ?_⟩
  refine K_nb (st' := []) rfl ?_
  have g18 : 0 ≤ m11.1 203 ∧ m11.1 203 ≤ 90 := Tm11.1 203
  have g19 : (-1) ≤ m11.1 206 ∧ m11.1 206 ≤ 65535 := Tm11.1 206
  replace h12 : (m.1 215) < (12 : Int) := h12
  replace h13 : KMk (m3.1 203) (m11.1 203) (m3.2 8) (m11.2 8) (m3.2 9) (m11.2 9) (301 : Int) (m.1 215) := h13
  rewrite [(show (m3.1 203) = (m.1 203) from (fr1 Fm3 203 rfl)), (show (m3.2 8) = (m.2 8) from (fr2 Fm3 8 rfl)), (show (m3.2 9) = (m.2 9) from (fr2 Fm3 9 rfl))] at h13
  have hMk := h13
  replace h14 : (m3.1 213) = 0 := h14
  rewrite [(show (m3.1 213) = (m.1 213) from (fr1 Fm3 213 rfl))] at h14
  refine T_ld 29 (.ref 178) rfl (fun _ => rfl) ?_
  refine K_gf 32 (.ref 12) rfl rfl kd_178 rfl rfl rfl ?_
  refine T_ld 33 (.ref 12) rfl (fun _ => rfl) ?_
  refine K_gf 36 (.int (i32 (m.1 215))) rfl rfl kd_12 rfl (kval_c2 (k := 215) (F := fun x => .int (i32 x)) rfl (show (m11.1 215) = (m.1 215) from ((fr1 Fm11 215 rfl).trans (fr1 Fm3 215 rfl)))) rfl ?_
  refine T_ld 37 (.int (i32 1)) rfl (fun _ => rfl) ?_
  refine T_iadd 38 rfl rfl ?_
  refine K_pf (l' := [(215, (m.1 215) + 1)]) 41 ((m.1 215) + 1) rfl rfl kd_12 rfl rfl rfl rfl rfl rfl rfl ?_
  have g20 : 0 ≤ (m.1 215) + 1 ∧ (m.1 215) + 1 ≤ 12 := ⟨by omega, by omega⟩
  have pKP : KPp (m11.1 203) (m11.2 8) (m11.2 9) (m.1 214) ((m.1 215) + 1) (m.1 216) (m.1 217) (m.1 221) (m.1 223) (m.1 219) := KPp_mk pKP hMk (by omega) (by omega) (by omega) (by omega) (by omega) (by omega) (by omega) (by omega)
  refine T_ld 42 (.ref 178) rfl (fun _ => rfl) ?_
  refine K_gf 45 (.ref 6) rfl rfl kd_178 rfl rfl rfl ?_
  refine T_ld 47 (.int (i32 58)) rfl (fun _ => rfl) ?_
  refine T_callx 50 78 [.ref 6, .int (i32 58)] [] rfl (fun _ => rfl) rfl rfl (c_tx_expect w (mO m11 [(215, (m.1 215) + 1)] []) c N D (by omega) (KTy_mO Tm11 rfl rfl ⟨g20, trivial⟩ trivial) 58 ⟨by decide, by decide⟩) (fun rr21 k22 => ?_)
  rcases k22 with ⟨m23, Tm23, Fm23, h24, h25, rfl⟩ | ⟨xx28, m26, hx27, Tm26, Fm26, rfl⟩
  rotate_left
  · skip
    refine Or.inr ⟨_, _, _, _, rfl, ?_⟩
    exact Or.inr ⟨xx28, (mO m26 [] []), (hx27), Tm26, (fr_m (fr_s Fm26 (fr_m (fr_s Fm11 (fr_m (fr_s Fm3 (fr_m fr_0 rfl rfl) rfl rfl) rfl rfl) rfl rfl) rfl rfl) rfl rfl) rfl rfl), rfl⟩
  refine Or.inl ⟨_, _, _, _, rfl, ?_⟩
  refine K_nb (st' := []) rfl ?_
  have g29 : (-1) ≤ m23.1 206 ∧ m23.1 206 ≤ 65535 := Tm23.1 206
  replace h24 : (m11.1 206) = (58 : Int) := h24
  replace h25 : (m11.1 213) = 0 := h25
  rewrite [(show (m11.1 213) = (m.1 213) from ((fr1 Fm11 213 rfl).trans (fr1 Fm3 213 rfl)))] at h25
  refine T_ld 51 (.ref 178) rfl (fun _ => rfl) ?_
  refine K_gf 54 (.ref 12) rfl rfl kd_178 rfl rfl rfl ?_
  refine K_gf 57 (.ref 16) rfl rfl kd_12 rfl rfl rfl ?_
  refine T_ld 58 (.int (i32 (m.1 215))) rfl (fun _ => rfl) ?_
  refine T_ld 59 (.ref 178) rfl (fun _ => rfl) ?_
  refine K_gf 62 (.ref 6) rfl rfl kd_178 rfl rfl rfl ?_
  refine T_ld 65 (.int (i32 300)) rfl (fun _ => rfl) ?_
  refine T_callx 68 83 [.ref 6, .int (i32 300)] [.int (i32 (m.1 215)), .ref 16] rfl (fun _ => rfl) rfl rfl (c_tx_known w (mO m23 [] []) c N D (by omega) Tm23 300 ⟨by decide, by decide⟩) (fun rr30 k31 => ?_)
  rcases k31 with ⟨m32, kn, Tm32, Fm32, g33, h34, h35, h36, rfl⟩ | ⟨xx39, m37, hx38, Tm37, Fm37, rfl⟩
  rotate_left
  · skip
    refine Or.inr ⟨_, _, _, _, rfl, ?_⟩
    exact Or.inr ⟨xx39, (mO m37 [] []), (hx38), Tm37, (fr_m (fr_s Fm37 (fr_m (fr_s Fm23 (fr_m (fr_s Fm11 (fr_m (fr_s Fm3 (fr_m fr_0 rfl rfl) rfl rfl) rfl rfl) rfl rfl) rfl rfl) rfl rfl) rfl rfl) rfl rfl) rfl rfl), rfl⟩
  refine Or.inl ⟨_, _, _, _, rfl, ?_⟩
  refine K_nb (st' := [.int (i32 kn), .int (i32 (m.1 215)), .ref 16]) rfl ?_
  obtain ⟨g33a, g33b⟩ := g33
  have g40 : (-1) ≤ m32.1 206 ∧ m32.1 206 ≤ 65535 := Tm32.1 206
  replace h34 : KNo (m23.1 203) (m23.2 8) (m23.2 9) (300 : Int) kn := h34
  rewrite [(show (m23.1 203) = (m11.1 203) from (fr1 Fm23 203 rfl)), (show (m23.2 8) = (m11.2 8) from (fr2 Fm23 8 rfl)), (show (m23.2 9) = (m11.2 9) from (fr2 Fm23 9 rfl))] at h34
  have hKn := h34
  replace h35 : (m23.1 213) = 0 := h35
  rewrite [(show (m23.1 213) = (m.1 213) from ((fr1 Fm23 213 rfl).trans ((fr1 Fm11 213 rfl).trans (fr1 Fm3 213 rfl))))] at h35
  replace h36 : (m23.1 206) = 256 := h36
  have hkn := KNo_w pKP hKn
  have G41 : ∀ j, 0 ≤ (upI (m.2 13) (m.1 215) kn) j ∧ (upI (m.2 13) (m.1 215) kn) j ≤ 11 := upI_rg (hT.2.1 13) ⟨by omega, by omega⟩
  refine K_iast (a' := [(13, upI (m.2 13) (m.1 215) kn)]) 69 13 (m.2 13) rfl rfl rfl (by omega) (show (m.1 215) < (12 : Int) by omega) (show (m32.2 13) = (m.2 13) from ((fr2 Fm32 13 rfl).trans ((fr2 Fm23 13 rfl).trans ((fr2 Fm11 13 rfl).trans (fr2 Fm3 13 rfl))))) rfl ?_
  have hIH : IHp ((m.1 215) + 1) (upI (m.2 13) (m.1 215) kn) (m.1 214) := IH_new hIH (by omega) rfl (by omega)
  refine T_ld 70 (.ref 178) rfl (fun _ => rfl) ?_
  refine K_gf 73 (.ref 6) rfl rfl kd_178 rfl rfl rfl ?_
  refine T_ld 75 (.int (i32 59)) rfl (fun _ => rfl) ?_
  refine T_callx 78 78 [.ref 6, .int (i32 59)] [] rfl (fun _ => rfl) rfl rfl (c_tx_expect w (mO m32 [] [(13, upI (m.2 13) (m.1 215) kn)]) c N D (by omega) (KTy_mO Tm32 rfl rfl trivial ⟨G41, trivial⟩) 59 ⟨by decide, by decide⟩) (fun rr42 k43 => ?_)
  rcases k43 with ⟨m44, Tm44, Fm44, h45, h46, rfl⟩ | ⟨xx49, m47, hx48, Tm47, Fm47, rfl⟩
  rotate_left
  · skip
    refine Or.inr ⟨_, _, _, _, rfl, ?_⟩
    exact Or.inr ⟨xx49, (mO m47 [] []), (hx48), Tm47, (fr_m (fr_s Fm47 (fr_m (fr_s Fm32 (fr_m (fr_s Fm23 (fr_m (fr_s Fm11 (fr_m (fr_s Fm3 (fr_m fr_0 rfl rfl) rfl rfl) rfl rfl) rfl rfl) rfl rfl) rfl rfl) rfl rfl) rfl rfl) rfl rfl) rfl rfl) rfl rfl), rfl⟩
  refine Or.inl ⟨_, _, _, _, rfl, ?_⟩
  refine K_nb (st' := []) rfl ?_
  have g50 : (-1) ≤ m44.1 206 ∧ m44.1 206 ≤ 65535 := Tm44.1 206
  replace h45 : (m32.1 206) = (59 : Int) := h45
  replace h46 : (m32.1 213) = 0 := h46
  rewrite [(show (m32.1 213) = (m.1 213) from ((fr1 Fm32 213 rfl).trans ((fr1 Fm23 213 rfl).trans ((fr1 Fm11 213 rfl).trans (fr1 Fm3 213 rfl)))))] at h46
  refine T_ret rfl (fun _ => rfl) ?_
  exact Or.inl ⟨(mO m44 [] []), Tm44, (fr_m (fr_s Fm44 (fr_m (fr_s Fm32 (fr_m (fr_s Fm23 (fr_m (fr_s Fm11 (fr_m (fr_s Fm3 (fr_m fr_0 rfl rfl) rfl rfl) rfl rfl) rfl rfl) rfl rfl) rfl rfl) rfl rfl) rfl rfl) rfl rfl) rfl rfl) rfl rfl), (show KPp (m44.1 203) (m44.2 8) (m44.2 9) (m.1 214) (m44.1 215) (m.1 216) (m.1 217) (m.1 221) (m.1 223) (m.1 219) by rewrite [(show (m44.1 203) = (m11.1 203) from ((fr1 Fm44 203 rfl).trans ((fr1 Fm32 203 rfl).trans (fr1 Fm23 203 rfl)))), (show (m44.2 8) = (m11.2 8) from ((fr2 Fm44 8 rfl).trans ((fr2 Fm32 8 rfl).trans (fr2 Fm23 8 rfl)))), (show (m44.2 9) = (m11.2 9) from ((fr2 Fm44 9 rfl).trans ((fr2 Fm32 9 rfl).trans (fr2 Fm23 9 rfl)))), (show (m44.1 215) = ((m.1 215) + 1) from ((fr1 Fm44 215 rfl).trans ((fr1 Fm32 215 rfl).trans (fr1 Fm23 215 rfl))))]; first | (exact pKP) | (exfalso; omega)), (show IHp (m44.1 215) (m44.2 13) (m.1 214) by rewrite [(show (m44.1 215) = ((m.1 215) + 1) from ((fr1 Fm44 215 rfl).trans ((fr1 Fm32 215 rfl).trans (fr1 Fm23 215 rfl)))), (show (m44.2 13) = (upI (m.2 13) (m.1 215) kn) from (fr2 Fm44 13 rfl))]; first | (exact hIH) | (exfalso; omega)), rfl⟩
def fF_rd_meta : List Nat := [203, 205, 206, 207, 208, 209, 210, 211, 212, 216]
def fA_rd_meta : List Nat := [6, 7, 8, 9, 14]
def Q_rd_meta (m : mR) (c : Nat → Option am_C) (N : Nat) : ag_Re af_T → Prop := fun R => (∃ (M : mR), KTy M ∧ fr fF_rd_meta fA_rd_meta m M ∧ (KPp (M.1 203) (M.2 8) (M.2 9) (m.1 214) (m.1 215) (M.1 216) (m.1 217) (m.1 221) (m.1 223) (m.1 219)) ∧ ((m.1 216) ≤ (M.1 216)) ∧ R = (.inl (none), (khp M c, N), 0, 0)) ∨ (∃ (x : Nat) (M : mR), (x = 0) ∧ (KTy M) ∧ (fr fF_rd_meta fA_rd_meta m M) ∧ R = (.inr x, (khp M c, N), 1, 6))
set_option maxHeartbeats 3000000 in
theorem c_rd_meta (w : wX) (m : mR) (c : Nat → Option am_C) (N D : Nat) (hD : 9 ≤ D) (hT : KTy m) (pKP : KPp (m.1 203) (m.2 8) (m.2 9) (m.1 214) (m.1 215) (m.1 216) (m.1 217) (m.1 221) (m.1 223) (m.1 219)) : TC w D 85 [.ref 178] (khp m c, N) (Q_rd_meta m c N) := by
  obtain ⟨D, rfl⟩ : ∃ k, D = k + 1 := ⟨D - 1, by omega⟩
  have f203 : 0 ≤ m.1 203 ∧ m.1 203 ≤ 90 := hT.1 203
  have f206 : (-1) ≤ m.1 206 ∧ m.1 206 ≤ 65535 := hT.1 206
  have f216 : 0 ≤ m.1 216 ∧ m.1 216 ≤ 16 := hT.1 216
  have f213 : 0 ≤ m.1 213 ∧ m.1 213 ≤ 1 := hT.1 213
  have f214 : 0 ≤ m.1 214 ∧ m.1 214 ≤ 12 := hT.1 214
  have f215 : 0 ≤ m.1 215 ∧ m.1 215 ≤ 12 := hT.1 215
  have f217 : 0 ≤ m.1 217 ∧ m.1 217 ≤ 8 := hT.1 217
  have f219 : 0 ≤ m.1 219 ∧ m.1 219 ≤ 8 := hT.1 219
  have f221 : 0 ≤ m.1 221 ∧ m.1 221 ≤ 16 := hT.1 221
  have f223 : 0 ≤ m.1 223 ∧ m.1 223 ≤ 16 := hT.1 223
  refine Tc_of rfl ?_
  rw [show (khp m c, N) = (khp (mO m [] []) c, N) from by rw [mO_nil m]]
  show TT w D pm_85 (0, [(0, .ref 178)], [], (khp (mO m [] []) c, N), 0, 0) (Q_rd_meta m c N)
  refine T_ld 1 (.ref 178) rfl (fun _ => rfl) ?_
  refine K_gf 4 (.ref 6) rfl rfl kd_178 rfl rfl rfl ?_
  refine T_callx 7 50 [.ref 6] [] rfl (fun _ => rfl) rfl rfl (c_tx_advance w (mO m [] []) c N D (by omega) hT ) (fun rr1 k2 => ?_)
  rcases k2 with ⟨m3, Tm3, Fm3, h4, rfl⟩ | ⟨xx7, m5, hx6, Tm5, Fm5, rfl⟩
  rotate_left
  · skip
    refine Or.inr ⟨_, _, _, _, rfl, ?_⟩
    exact Or.inr ⟨xx7, (mO m5 [] []), (hx6), Tm5, (fr_m (fr_s Fm5 (fr_m fr_0 rfl rfl) rfl rfl) rfl rfl), rfl⟩
  refine Or.inl ⟨_, _, _, _, rfl, ?_⟩
  refine K_nb (st' := []) rfl ?_
  have g8 : (-1) ≤ m3.1 206 ∧ m3.1 206 ≤ 65535 := Tm3.1 206
  replace h4 : (m.1 213) = 0 := h4
  refine T_ld 8 (.ref 178) rfl (fun _ => rfl) ?_
  refine K_gf 11 (.ref 12) rfl rfl kd_178 rfl rfl rfl ?_
  refine K_gf 14 (.int (i32 (m.1 216))) rfl rfl kd_12 rfl (kval_c2 (k := 216) (F := fun x => .int (i32 x)) rfl (show (m3.1 216) = (m.1 216) from (fr1 Fm3 216 rfl))) rfl ?_
  refine T_sto 15 [(1, .int (i32 (m.1 216))), (0, .ref 178)] rfl (fun _ => rfl) ?_
  refine T_ld 16 (.ref 178) rfl (fun _ => rfl) ?_
  refine K_gf 19 (.ref 6) rfl rfl kd_178 rfl rfl rfl ?_
  refine T_ld 22 (.int (i32 302)) rfl (fun _ => rfl) ?_
  refine T_ld 23 (.int (i32 (m.1 216))) rfl (fun _ => rfl) ?_
  refine T_ld 25 (.int (i32 16)) rfl (fun _ => rfl) ?_
  refine T_callx 28 75 [.ref 6, .int (i32 302), .int (i32 (m.1 216)), .int (i32 16)] [] rfl (fun _ => rfl) rfl rfl (c_tx_makeNew w (mO m3 [] []) c N D (by omega) Tm3 302 (m.1 216) 16 ⟨by decide, by decide⟩ (r32 (by omega) (by omega)) ⟨by decide, by decide⟩ (show 0 ≤ (302 : Int) ∧ (302 : Int) ≤ 310 by omega) (show 0 ≤ (m.1 216) ∧ (16 : Int) ≤ 16 by omega)) (fun rr9 k10 => ?_)
  rcases k10 with ⟨m11, Tm11, Fm11, h12, h13, h14, rfl⟩ | ⟨xx17, m15, hx16, Tm15, Fm15, rfl⟩
  rotate_left
  · skip
    refine Or.inr ⟨_, _, _, _, rfl, ?_⟩
    exact Or.inr ⟨xx17, (mO m15 [] []), (hx16), Tm15, (fr_m (fr_s Fm15 (fr_m (fr_s Fm3 (fr_m fr_0 rfl rfl) rfl rfl) rfl rfl) rfl rfl) rfl rfl), rfl⟩
  refine Or.inl ⟨_, _, _, _, rfl, ?_⟩
  refine K_nb (st' := []) rfl ?_
  have g18 : 0 ≤ m11.1 203 ∧ m11.1 203 ≤ 90 := Tm11.1 203
  have g19 : (-1) ≤ m11.1 206 ∧ m11.1 206 ≤ 65535 := Tm11.1 206
  replace h12 : (m.1 216) < (16 : Int) := h12
  replace h13 : KMk (m3.1 203) (m11.1 203) (m3.2 8) (m11.2 8) (m3.2 9) (m11.2 9) (302 : Int) (m.1 216) := h13
  rewrite [(show (m3.1 203) = (m.1 203) from (fr1 Fm3 203 rfl)), (show (m3.2 8) = (m.2 8) from (fr2 Fm3 8 rfl)), (show (m3.2 9) = (m.2 9) from (fr2 Fm3 9 rfl))] at h13
  have hMk := h13
  replace h14 : (m3.1 213) = 0 := h14
  rewrite [(show (m3.1 213) = (m.1 213) from (fr1 Fm3 213 rfl))] at h14
  refine T_ld 29 (.ref 178) rfl (fun _ => rfl) ?_
  refine K_gf 32 (.ref 12) rfl rfl kd_178 rfl rfl rfl ?_
  refine T_ld 33 (.ref 12) rfl (fun _ => rfl) ?_
  refine K_gf 36 (.int (i32 (m.1 216))) rfl rfl kd_12 rfl (kval_c2 (k := 216) (F := fun x => .int (i32 x)) rfl (show (m11.1 216) = (m.1 216) from ((fr1 Fm11 216 rfl).trans (fr1 Fm3 216 rfl)))) rfl ?_
  refine T_ld 37 (.int (i32 1)) rfl (fun _ => rfl) ?_
  refine T_iadd 38 rfl rfl ?_
  refine K_pf (l' := [(216, (m.1 216) + 1)]) 41 ((m.1 216) + 1) rfl rfl kd_12 rfl rfl rfl rfl rfl rfl rfl ?_
  have g20 : 0 ≤ (m.1 216) + 1 ∧ (m.1 216) + 1 ≤ 16 := ⟨by omega, by omega⟩
  have pKP : KPp (m11.1 203) (m11.2 8) (m11.2 9) (m.1 214) (m.1 215) ((m.1 216) + 1) (m.1 217) (m.1 221) (m.1 223) (m.1 219) := KPp_mk pKP hMk (by omega) (by omega) (by omega) (by omega) (by omega) (by omega) (by omega) (by omega)
  refine T_ld 42 (.ref 178) rfl (fun _ => rfl) ?_
  refine K_gf 45 (.ref 6) rfl rfl kd_178 rfl rfl rfl ?_
  refine T_ld 47 (.int (i32 58)) rfl (fun _ => rfl) ?_
  refine T_callx 50 78 [.ref 6, .int (i32 58)] [] rfl (fun _ => rfl) rfl rfl (c_tx_expect w (mO m11 [(216, (m.1 216) + 1)] []) c N D (by omega) (KTy_mO Tm11 rfl rfl ⟨g20, trivial⟩ trivial) 58 ⟨by decide, by decide⟩) (fun rr21 k22 => ?_)
  rcases k22 with ⟨m23, Tm23, Fm23, h24, h25, rfl⟩ | ⟨xx28, m26, hx27, Tm26, Fm26, rfl⟩
  rotate_left
  · skip
    refine Or.inr ⟨_, _, _, _, rfl, ?_⟩
    exact Or.inr ⟨xx28, (mO m26 [] []), (hx27), Tm26, (fr_m (fr_s Fm26 (fr_m (fr_s Fm11 (fr_m (fr_s Fm3 (fr_m fr_0 rfl rfl) rfl rfl) rfl rfl) rfl rfl) rfl rfl) rfl rfl) rfl rfl), rfl⟩
  refine Or.inl ⟨_, _, _, _, rfl, ?_⟩
  refine K_nb (st' := []) rfl ?_
  have g29 : (-1) ≤ m23.1 206 ∧ m23.1 206 ≤ 65535 := Tm23.1 206
  replace h24 : (m11.1 206) = (58 : Int) := h24
  replace h25 : (m11.1 213) = 0 := h25
  rewrite [(show (m11.1 213) = (m.1 213) from ((fr1 Fm11 213 rfl).trans (fr1 Fm3 213 rfl)))] at h25
  refine T_ld 51 (.ref 178) rfl (fun _ => rfl) ?_
  refine K_gf 54 (.ref 12) rfl rfl kd_178 rfl rfl rfl ?_
  refine K_gf 57 (.ref 17) rfl rfl kd_12 rfl rfl rfl ?_
  refine T_ld 58 (.int (i32 (m.1 216))) rfl (fun _ => rfl) ?_
  refine T_ld 59 (.ref 178) rfl (fun _ => rfl) ?_
  refine K_gf 62 (.ref 6) rfl rfl kd_178 rfl rfl rfl ?_
  refine T_ld 63 (.int (i32 1)) rfl (fun _ => rfl) ?_
  refine T_ld 65 (.int (i32 64)) rfl (fun _ => rfl) ?_
  refine T_callx 68 81 [.ref 6, .int (i32 1), .int (i32 64)] [.int (i32 (m.1 216)), .ref 17] rfl (fun _ => rfl) rfl rfl (c_tx_within w (mO m23 [] []) c N D (by omega) Tm23 1 64 ⟨by decide, by decide⟩ ⟨by decide, by decide⟩ (show 0 ≤ (1 : Int) ∧ (1 : Int) ≤ (64 : Int) ∧ (64 : Int) ≤ 64 by omega)) (fun rr30 k31 => ?_)
  rcases k31 with ⟨m32, wn, Tm32, Fm32, g33, h34, h35, rfl⟩ | ⟨xx38, m36, hx37, Tm36, Fm36, rfl⟩
  rotate_left
  · skip
    refine Or.inr ⟨_, _, _, _, rfl, ?_⟩
    exact Or.inr ⟨xx38, (mO m36 [] []), (hx37), Tm36, (fr_m (fr_s Fm36 (fr_m (fr_s Fm23 (fr_m (fr_s Fm11 (fr_m (fr_s Fm3 (fr_m fr_0 rfl rfl) rfl rfl) rfl rfl) rfl rfl) rfl rfl) rfl rfl) rfl rfl) rfl rfl) rfl rfl), rfl⟩
  refine Or.inl ⟨_, _, _, _, rfl, ?_⟩
  refine K_nb (st' := [.int (i32 wn), .int (i32 (m.1 216)), .ref 17]) rfl ?_
  obtain ⟨g33a, g33b⟩ := g33
  have g39 : (-1) ≤ m32.1 206 ∧ m32.1 206 ≤ 65535 := Tm32.1 206
  replace h34 : (1 : Int) ≤ wn ∧ wn ≤ (64 : Int) := h34
  replace h35 : (m23.1 213) = 0 := h35
  rewrite [(show (m23.1 213) = (m.1 213) from ((fr1 Fm23 213 rfl).trans ((fr1 Fm11 213 rfl).trans (fr1 Fm3 213 rfl))))] at h35
  have G40 : ∀ j, 0 ≤ (upI (m.2 14) (m.1 216) wn) j ∧ (upI (m.2 14) (m.1 216) wn) j ≤ 64 := upI_rg (hT.2.1 14) ⟨by omega, by omega⟩
  refine K_iast (a' := [(14, upI (m.2 14) (m.1 216) wn)]) 69 14 (m.2 14) rfl rfl rfl (by omega) (show (m.1 216) < (16 : Int) by omega) (show (m32.2 14) = (m.2 14) from ((fr2 Fm32 14 rfl).trans ((fr2 Fm23 14 rfl).trans ((fr2 Fm11 14 rfl).trans (fr2 Fm3 14 rfl))))) rfl ?_
  refine T_ld 70 (.ref 178) rfl (fun _ => rfl) ?_
  refine K_gf 73 (.ref 6) rfl rfl kd_178 rfl rfl rfl ?_
  refine T_ld 75 (.int (i32 59)) rfl (fun _ => rfl) ?_
  refine T_callx 78 78 [.ref 6, .int (i32 59)] [] rfl (fun _ => rfl) rfl rfl (c_tx_expect w (mO m32 [] [(14, upI (m.2 14) (m.1 216) wn)]) c N D (by omega) (KTy_mO Tm32 rfl rfl trivial ⟨G40, trivial⟩) 59 ⟨by decide, by decide⟩) (fun rr41 k42 => ?_)
  rcases k42 with ⟨m43, Tm43, Fm43, h44, h45, rfl⟩ | ⟨xx48, m46, hx47, Tm46, Fm46, rfl⟩
  rotate_left
  · skip
    refine Or.inr ⟨_, _, _, _, rfl, ?_⟩
    exact Or.inr ⟨xx48, (mO m46 [] []), (hx47), Tm46, (fr_m (fr_s Fm46 (fr_m (fr_s Fm32 (fr_m (fr_s Fm23 (fr_m (fr_s Fm11 (fr_m (fr_s Fm3 (fr_m fr_0 rfl rfl) rfl rfl) rfl rfl) rfl rfl) rfl rfl) rfl rfl) rfl rfl) rfl rfl) rfl rfl) rfl rfl) rfl rfl), rfl⟩
  refine Or.inl ⟨_, _, _, _, rfl, ?_⟩
  refine K_nb (st' := []) rfl ?_
  have g49 : (-1) ≤ m43.1 206 ∧ m43.1 206 ≤ 65535 := Tm43.1 206
  replace h44 : (m32.1 206) = (59 : Int) := h44
  replace h45 : (m32.1 213) = 0 := h45
  rewrite [(show (m32.1 213) = (m.1 213) from ((fr1 Fm32 213 rfl).trans ((fr1 Fm23 213 rfl).trans ((fr1 Fm11 213 rfl).trans (fr1 Fm3 213 rfl)))))] at h45
  refine T_ret rfl (fun _ => rfl) ?_
  exact Or.inl ⟨(mO m43 [] []), Tm43, (fr_m (fr_s Fm43 (fr_m (fr_s Fm32 (fr_m (fr_s Fm23 (fr_m (fr_s Fm11 (fr_m (fr_s Fm3 (fr_m fr_0 rfl rfl) rfl rfl) rfl rfl) rfl rfl) rfl rfl) rfl rfl) rfl rfl) rfl rfl) rfl rfl) rfl rfl) rfl rfl), (show KPp (m43.1 203) (m43.2 8) (m43.2 9) (m.1 214) (m.1 215) (m43.1 216) (m.1 217) (m.1 221) (m.1 223) (m.1 219) by rewrite [(show (m43.1 203) = (m11.1 203) from ((fr1 Fm43 203 rfl).trans ((fr1 Fm32 203 rfl).trans (fr1 Fm23 203 rfl)))), (show (m43.2 8) = (m11.2 8) from ((fr2 Fm43 8 rfl).trans ((fr2 Fm32 8 rfl).trans (fr2 Fm23 8 rfl)))), (show (m43.2 9) = (m11.2 9) from ((fr2 Fm43 9 rfl).trans ((fr2 Fm32 9 rfl).trans (fr2 Fm23 9 rfl)))), (show (m43.1 216) = ((m.1 216) + 1) from ((fr1 Fm43 216 rfl).trans ((fr1 Fm32 216 rfl).trans (fr1 Fm23 216 rfl))))]; first | (exact pKP) | (exfalso; omega)), (show (m.1 216) ≤ (m43.1 216) by rewrite [(show (m43.1 216) = ((m.1 216) + 1) from ((fr1 Fm43 216 rfl).trans ((fr1 Fm32 216 rfl).trans (fr1 Fm23 216 rfl))))]; omega), rfl⟩
def fF_rd_array : List Nat := [203, 205, 206, 207, 208, 209, 210, 211, 212, 217]
def fA_rd_array : List Nat := [6, 7, 8, 9, 15, 16]
def Q_rd_array (m : mR) (c : Nat → Option am_C) (N : Nat) : ag_Re af_T → Prop := fun R => (∃ (M : mR), KTy M ∧ fr fF_rd_array fA_rd_array m M ∧ (KPp (M.1 203) (M.2 8) (M.2 9) (m.1 214) (m.1 215) (m.1 216) (M.1 217) (m.1 221) (m.1 223) (m.1 219)) ∧ R = (.inl (none), (khp M c, N), 0, 0)) ∨ (∃ (x : Nat) (M : mR), (x = 0) ∧ (KTy M) ∧ (fr fF_rd_array fA_rd_array m M) ∧ R = (.inr x, (khp M c, N), 1, 6))
set_option maxHeartbeats 3000000 in
theorem c_rd_array (w : wX) (m : mR) (c : Nat → Option am_C) (N D : Nat) (hD : 9 ≤ D) (hT : KTy m) (pKP : KPp (m.1 203) (m.2 8) (m.2 9) (m.1 214) (m.1 215) (m.1 216) (m.1 217) (m.1 221) (m.1 223) (m.1 219)) : TC w D 86 [.ref 178] (khp m c, N) (Q_rd_array m c N) := by
  obtain ⟨D, rfl⟩ : ∃ k, D = k + 1 := ⟨D - 1, by omega⟩
  have f203 : 0 ≤ m.1 203 ∧ m.1 203 ≤ 90 := hT.1 203
  have f206 : (-1) ≤ m.1 206 ∧ m.1 206 ≤ 65535 := hT.1 206
  have f217 : 0 ≤ m.1 217 ∧ m.1 217 ≤ 8 := hT.1 217
  have f213 : 0 ≤ m.1 213 ∧ m.1 213 ≤ 1 := hT.1 213
  have f214 : 0 ≤ m.1 214 ∧ m.1 214 ≤ 12 := hT.1 214
  have f215 : 0 ≤ m.1 215 ∧ m.1 215 ≤ 12 := hT.1 215
  have f216 : 0 ≤ m.1 216 ∧ m.1 216 ≤ 16 := hT.1 216
  have f219 : 0 ≤ m.1 219 ∧ m.1 219 ≤ 8 := hT.1 219
  have f221 : 0 ≤ m.1 221 ∧ m.1 221 ≤ 16 := hT.1 221
  have f223 : 0 ≤ m.1 223 ∧ m.1 223 ≤ 16 := hT.1 223
  refine Tc_of rfl ?_
  rw [show (khp m c, N) = (khp (mO m [] []) c, N) from by rw [mO_nil m]]
  show TT w D pm_86 (0, [(0, .ref 178)], [], (khp (mO m [] []) c, N), 0, 0) (Q_rd_array m c N)
  refine T_ld 1 (.ref 178) rfl (fun _ => rfl) ?_
  refine K_gf 4 (.ref 6) rfl rfl kd_178 rfl rfl rfl ?_
  refine T_callx 7 50 [.ref 6] [] rfl (fun _ => rfl) rfl rfl (c_tx_advance w (mO m [] []) c N D (by omega) hT ) (fun rr1 k2 => ?_)
  rcases k2 with ⟨m3, Tm3, Fm3, h4, rfl⟩ | ⟨xx7, m5, hx6, Tm5, Fm5, rfl⟩
  rotate_left
  · skip
    refine Or.inr ⟨_, _, _, _, rfl, ?_⟩
    exact Or.inr ⟨xx7, (mO m5 [] []), (hx6), Tm5, (fr_m (fr_s Fm5 (fr_m fr_0 rfl rfl) rfl rfl) rfl rfl), rfl⟩
  refine Or.inl ⟨_, _, _, _, rfl, ?_⟩
  refine K_nb (st' := []) rfl ?_
  have g8 : (-1) ≤ m3.1 206 ∧ m3.1 206 ≤ 65535 := Tm3.1 206
  replace h4 : (m.1 213) = 0 := h4
  refine T_ld 8 (.ref 178) rfl (fun _ => rfl) ?_
  refine K_gf 11 (.ref 12) rfl rfl kd_178 rfl rfl rfl ?_
  refine K_gf 14 (.int (i32 (m.1 217))) rfl rfl kd_12 rfl (kval_c2 (k := 217) (F := fun x => .int (i32 x)) rfl (show (m3.1 217) = (m.1 217) from (fr1 Fm3 217 rfl))) rfl ?_
  refine T_sto 15 [(1, .int (i32 (m.1 217))), (0, .ref 178)] rfl (fun _ => rfl) ?_
  refine T_ld 16 (.ref 178) rfl (fun _ => rfl) ?_
  refine K_gf 19 (.ref 6) rfl rfl kd_178 rfl rfl rfl ?_
  refine T_ld 22 (.int (i32 303)) rfl (fun _ => rfl) ?_
  refine T_ld 23 (.int (i32 (m.1 217))) rfl (fun _ => rfl) ?_
  refine T_ld 25 (.int (i32 8)) rfl (fun _ => rfl) ?_
  refine T_callx 28 75 [.ref 6, .int (i32 303), .int (i32 (m.1 217)), .int (i32 8)] [] rfl (fun _ => rfl) rfl rfl (c_tx_makeNew w (mO m3 [] []) c N D (by omega) Tm3 303 (m.1 217) 8 ⟨by decide, by decide⟩ (r32 (by omega) (by omega)) ⟨by decide, by decide⟩ (show 0 ≤ (303 : Int) ∧ (303 : Int) ≤ 310 by omega) (show 0 ≤ (m.1 217) ∧ (8 : Int) ≤ 16 by omega)) (fun rr9 k10 => ?_)
  rcases k10 with ⟨m11, Tm11, Fm11, h12, h13, h14, rfl⟩ | ⟨xx17, m15, hx16, Tm15, Fm15, rfl⟩
  rotate_left
  · skip
    refine Or.inr ⟨_, _, _, _, rfl, ?_⟩
    exact Or.inr ⟨xx17, (mO m15 [] []), (hx16), Tm15, (fr_m (fr_s Fm15 (fr_m (fr_s Fm3 (fr_m fr_0 rfl rfl) rfl rfl) rfl rfl) rfl rfl) rfl rfl), rfl⟩
  refine Or.inl ⟨_, _, _, _, rfl, ?_⟩
  refine K_nb (st' := []) rfl ?_
  have g18 : 0 ≤ m11.1 203 ∧ m11.1 203 ≤ 90 := Tm11.1 203
  have g19 : (-1) ≤ m11.1 206 ∧ m11.1 206 ≤ 65535 := Tm11.1 206
  replace h12 : (m.1 217) < (8 : Int) := h12
  replace h13 : KMk (m3.1 203) (m11.1 203) (m3.2 8) (m11.2 8) (m3.2 9) (m11.2 9) (303 : Int) (m.1 217) := h13
  rewrite [(show (m3.1 203) = (m.1 203) from (fr1 Fm3 203 rfl)), (show (m3.2 8) = (m.2 8) from (fr2 Fm3 8 rfl)), (show (m3.2 9) = (m.2 9) from (fr2 Fm3 9 rfl))] at h13
  have hMk := h13
  replace h14 : (m3.1 213) = 0 := h14
  rewrite [(show (m3.1 213) = (m.1 213) from (fr1 Fm3 213 rfl))] at h14
  refine T_ld 29 (.ref 178) rfl (fun _ => rfl) ?_
  refine K_gf 32 (.ref 12) rfl rfl kd_178 rfl rfl rfl ?_
  refine T_ld 33 (.ref 12) rfl (fun _ => rfl) ?_
  refine K_gf 36 (.int (i32 (m.1 217))) rfl rfl kd_12 rfl (kval_c2 (k := 217) (F := fun x => .int (i32 x)) rfl (show (m11.1 217) = (m.1 217) from ((fr1 Fm11 217 rfl).trans (fr1 Fm3 217 rfl)))) rfl ?_
  refine T_ld 37 (.int (i32 1)) rfl (fun _ => rfl) ?_
  refine T_iadd 38 rfl rfl ?_
  refine K_pf (l' := [(217, (m.1 217) + 1)]) 41 ((m.1 217) + 1) rfl rfl kd_12 rfl rfl rfl rfl rfl rfl rfl ?_
  have g20 : 0 ≤ (m.1 217) + 1 ∧ (m.1 217) + 1 ≤ 8 := ⟨by omega, by omega⟩
  have pKP : KPp (m11.1 203) (m11.2 8) (m11.2 9) (m.1 214) (m.1 215) (m.1 216) ((m.1 217) + 1) (m.1 221) (m.1 223) (m.1 219) := KPp_mk pKP hMk (by omega) (by omega) (by omega) (by omega) (by omega) (by omega) (by omega) (by omega)
  refine T_ld 42 (.ref 178) rfl (fun _ => rfl) ?_
  refine K_gf 45 (.ref 6) rfl rfl kd_178 rfl rfl rfl ?_
  refine T_ld 47 (.int (i32 58)) rfl (fun _ => rfl) ?_
  refine T_callx 50 78 [.ref 6, .int (i32 58)] [] rfl (fun _ => rfl) rfl rfl (c_tx_expect w (mO m11 [(217, (m.1 217) + 1)] []) c N D (by omega) (KTy_mO Tm11 rfl rfl ⟨g20, trivial⟩ trivial) 58 ⟨by decide, by decide⟩) (fun rr21 k22 => ?_)
  rcases k22 with ⟨m23, Tm23, Fm23, h24, h25, rfl⟩ | ⟨xx28, m26, hx27, Tm26, Fm26, rfl⟩
  rotate_left
  · skip
    refine Or.inr ⟨_, _, _, _, rfl, ?_⟩
    exact Or.inr ⟨xx28, (mO m26 [] []), (hx27), Tm26, (fr_m (fr_s Fm26 (fr_m (fr_s Fm11 (fr_m (fr_s Fm3 (fr_m fr_0 rfl rfl) rfl rfl) rfl rfl) rfl rfl) rfl rfl) rfl rfl) rfl rfl), rfl⟩
  refine Or.inl ⟨_, _, _, _, rfl, ?_⟩
  refine K_nb (st' := []) rfl ?_
  have g29 : (-1) ≤ m23.1 206 ∧ m23.1 206 ≤ 65535 := Tm23.1 206
  replace h24 : (m11.1 206) = (58 : Int) := h24
  replace h25 : (m11.1 213) = 0 := h25
  rewrite [(show (m11.1 213) = (m.1 213) from ((fr1 Fm11 213 rfl).trans (fr1 Fm3 213 rfl)))] at h25
  refine T_ld 51 (.ref 178) rfl (fun _ => rfl) ?_
  refine K_gf 54 (.ref 12) rfl rfl kd_178 rfl rfl rfl ?_
  refine K_gf 57 (.ref 18) rfl rfl kd_12 rfl rfl rfl ?_
  refine T_ld 58 (.int (i32 (m.1 217))) rfl (fun _ => rfl) ?_
  refine T_ld 59 (.ref 178) rfl (fun _ => rfl) ?_
  refine K_gf 62 (.ref 6) rfl rfl kd_178 rfl rfl rfl ?_
  refine T_ld 63 (.int (i32 1)) rfl (fun _ => rfl) ?_
  refine T_ld 65 (.int (i32 64)) rfl (fun _ => rfl) ?_
  refine T_callx 68 81 [.ref 6, .int (i32 1), .int (i32 64)] [.int (i32 (m.1 217)), .ref 18] rfl (fun _ => rfl) rfl rfl (c_tx_within w (mO m23 [] []) c N D (by omega) Tm23 1 64 ⟨by decide, by decide⟩ ⟨by decide, by decide⟩ (show 0 ≤ (1 : Int) ∧ (1 : Int) ≤ (64 : Int) ∧ (64 : Int) ≤ 64 by omega)) (fun rr30 k31 => ?_)
  rcases k31 with ⟨m32, wn, Tm32, Fm32, g33, h34, h35, rfl⟩ | ⟨xx38, m36, hx37, Tm36, Fm36, rfl⟩
  rotate_left
  · skip
    refine Or.inr ⟨_, _, _, _, rfl, ?_⟩
    exact Or.inr ⟨xx38, (mO m36 [] []), (hx37), Tm36, (fr_m (fr_s Fm36 (fr_m (fr_s Fm23 (fr_m (fr_s Fm11 (fr_m (fr_s Fm3 (fr_m fr_0 rfl rfl) rfl rfl) rfl rfl) rfl rfl) rfl rfl) rfl rfl) rfl rfl) rfl rfl) rfl rfl), rfl⟩
  refine Or.inl ⟨_, _, _, _, rfl, ?_⟩
  refine K_nb (st' := [.int (i32 wn), .int (i32 (m.1 217)), .ref 18]) rfl ?_
  obtain ⟨g33a, g33b⟩ := g33
  have g39 : (-1) ≤ m32.1 206 ∧ m32.1 206 ≤ 65535 := Tm32.1 206
  replace h34 : (1 : Int) ≤ wn ∧ wn ≤ (64 : Int) := h34
  replace h35 : (m23.1 213) = 0 := h35
  rewrite [(show (m23.1 213) = (m.1 213) from ((fr1 Fm23 213 rfl).trans ((fr1 Fm11 213 rfl).trans (fr1 Fm3 213 rfl))))] at h35
  have G40 : ∀ j, 0 ≤ (upI (m.2 15) (m.1 217) wn) j ∧ (upI (m.2 15) (m.1 217) wn) j ≤ 64 := upI_rg (hT.2.1 15) ⟨by omega, by omega⟩
  refine K_iast (a' := [(15, upI (m.2 15) (m.1 217) wn)]) 69 15 (m.2 15) rfl rfl rfl (by omega) (show (m.1 217) < (8 : Int) by omega) (show (m32.2 15) = (m.2 15) from ((fr2 Fm32 15 rfl).trans ((fr2 Fm23 15 rfl).trans ((fr2 Fm11 15 rfl).trans (fr2 Fm3 15 rfl))))) rfl ?_
  refine T_ld 70 (.ref 178) rfl (fun _ => rfl) ?_
  refine K_gf 73 (.ref 6) rfl rfl kd_178 rfl rfl rfl ?_
  refine T_ld 75 (.int (i32 91)) rfl (fun _ => rfl) ?_
  refine T_callx 78 78 [.ref 6, .int (i32 91)] [] rfl (fun _ => rfl) rfl rfl (c_tx_expect w (mO m32 [] [(15, upI (m.2 15) (m.1 217) wn)]) c N D (by omega) (KTy_mO Tm32 rfl rfl trivial ⟨G40, trivial⟩) 91 ⟨by decide, by decide⟩) (fun rr41 k42 => ?_)
  rcases k42 with ⟨m43, Tm43, Fm43, h44, h45, rfl⟩ | ⟨xx48, m46, hx47, Tm46, Fm46, rfl⟩
  rotate_left
  · skip
    refine Or.inr ⟨_, _, _, _, rfl, ?_⟩
    exact Or.inr ⟨xx48, (mO m46 [] []), (hx47), Tm46, (fr_m (fr_s Fm46 (fr_m (fr_s Fm32 (fr_m (fr_s Fm23 (fr_m (fr_s Fm11 (fr_m (fr_s Fm3 (fr_m fr_0 rfl rfl) rfl rfl) rfl rfl) rfl rfl) rfl rfl) rfl rfl) rfl rfl) rfl rfl) rfl rfl) rfl rfl) rfl rfl), rfl⟩
  refine Or.inl ⟨_, _, _, _, rfl, ?_⟩
  refine K_nb (st' := []) rfl ?_
  have g49 : (-1) ≤ m43.1 206 ∧ m43.1 206 ≤ 65535 := Tm43.1 206
  replace h44 : (m32.1 206) = (91 : Int) := h44
  replace h45 : (m32.1 213) = 0 := h45
  rewrite [(show (m32.1 213) = (m.1 213) from ((fr1 Fm32 213 rfl).trans ((fr1 Fm23 213 rfl).trans ((fr1 Fm11 213 rfl).trans (fr1 Fm3 213 rfl)))))] at h45
  refine T_ld 79 (.ref 178) rfl (fun _ => rfl) ?_
  refine K_gf 82 (.ref 12) rfl rfl kd_178 rfl rfl rfl ?_
  refine K_gf 85 (.ref 19) rfl rfl kd_12 rfl rfl rfl ?_
  refine T_ld 86 (.int (i32 (m.1 217))) rfl (fun _ => rfl) ?_
  refine T_ld 87 (.ref 178) rfl (fun _ => rfl) ?_
  refine K_gf 90 (.ref 6) rfl rfl kd_178 rfl rfl rfl ?_
  refine T_ld 91 (.int (i32 1)) rfl (fun _ => rfl) ?_
  refine T_ld 93 (.int (i32 64)) rfl (fun _ => rfl) ?_
  refine T_callx 96 81 [.ref 6, .int (i32 1), .int (i32 64)] [.int (i32 (m.1 217)), .ref 19] rfl (fun _ => rfl) rfl rfl (c_tx_within w (mO m43 [] []) c N D (by omega) Tm43 1 64 ⟨by decide, by decide⟩ ⟨by decide, by decide⟩ (show 0 ≤ (1 : Int) ∧ (1 : Int) ≤ (64 : Int) ∧ (64 : Int) ≤ 64 by omega)) (fun rr50 k51 => ?_)
  rcases k51 with ⟨m52, wn53, Tm52, Fm52, g54, h55, h56, rfl⟩ | ⟨xx59, m57, hx58, Tm57, Fm57, rfl⟩
  rotate_left
  · skip
    refine Or.inr ⟨_, _, _, _, rfl, ?_⟩
    exact Or.inr ⟨xx59, (mO m57 [] []), (hx58), Tm57, (fr_m (fr_s Fm57 (fr_m (fr_s Fm43 (fr_m (fr_s Fm32 (fr_m (fr_s Fm23 (fr_m (fr_s Fm11 (fr_m (fr_s Fm3 (fr_m fr_0 rfl rfl) rfl rfl) rfl rfl) rfl rfl) rfl rfl) rfl rfl) rfl rfl) rfl rfl) rfl rfl) rfl rfl) rfl rfl) rfl rfl) rfl rfl), rfl⟩
  refine Or.inl ⟨_, _, _, _, rfl, ?_⟩
  refine K_nb (st' := [.int (i32 wn53), .int (i32 (m.1 217)), .ref 19]) rfl ?_
  obtain ⟨g54a, g54b⟩ := g54
  have g60 : (-1) ≤ m52.1 206 ∧ m52.1 206 ≤ 65535 := Tm52.1 206
  replace h55 : (1 : Int) ≤ wn53 ∧ wn53 ≤ (64 : Int) := h55
  replace h56 : (m43.1 213) = 0 := h56
  rewrite [(show (m43.1 213) = (m.1 213) from ((fr1 Fm43 213 rfl).trans ((fr1 Fm32 213 rfl).trans ((fr1 Fm23 213 rfl).trans ((fr1 Fm11 213 rfl).trans (fr1 Fm3 213 rfl))))))] at h56
  have G61 : ∀ j, 0 ≤ (upI (m.2 16) (m.1 217) wn53) j ∧ (upI (m.2 16) (m.1 217) wn53) j ≤ 64 := upI_rg (hT.2.1 16) ⟨by omega, by omega⟩
  refine K_iast (a' := [(16, upI (m.2 16) (m.1 217) wn53)]) 97 16 (m.2 16) rfl rfl rfl (by omega) (show (m.1 217) < (8 : Int) by omega) (show (m52.2 16) = (m.2 16) from ((fr2 Fm52 16 rfl).trans ((fr2 Fm43 16 rfl).trans ((fr2 Fm32 16 rfl).trans ((fr2 Fm23 16 rfl).trans ((fr2 Fm11 16 rfl).trans (fr2 Fm3 16 rfl))))))) rfl ?_
  refine T_ld 98 (.ref 178) rfl (fun _ => rfl) ?_
  refine K_gf 101 (.ref 6) rfl rfl kd_178 rfl rfl rfl ?_
  refine T_ld 103 (.int (i32 93)) rfl (fun _ => rfl) ?_
  refine T_callx 106 78 [.ref 6, .int (i32 93)] [] rfl (fun _ => rfl) rfl rfl (c_tx_expect w (mO m52 [] [(16, upI (m.2 16) (m.1 217) wn53)]) c N D (by omega) (KTy_mO Tm52 rfl rfl trivial ⟨G61, trivial⟩) 93 ⟨by decide, by decide⟩) (fun rr62 k63 => ?_)
  rcases k63 with ⟨m64, Tm64, Fm64, h65, h66, rfl⟩ | ⟨xx69, m67, hx68, Tm67, Fm67, rfl⟩
  rotate_left
  · skip
    refine Or.inr ⟨_, _, _, _, rfl, ?_⟩
    exact Or.inr ⟨xx69, (mO m67 [] []), (hx68), Tm67, (fr_m (fr_s Fm67 (fr_m (fr_s Fm52 (fr_m (fr_s Fm43 (fr_m (fr_s Fm32 (fr_m (fr_s Fm23 (fr_m (fr_s Fm11 (fr_m (fr_s Fm3 (fr_m fr_0 rfl rfl) rfl rfl) rfl rfl) rfl rfl) rfl rfl) rfl rfl) rfl rfl) rfl rfl) rfl rfl) rfl rfl) rfl rfl) rfl rfl) rfl rfl) rfl rfl) rfl rfl), rfl⟩
  refine Or.inl ⟨_, _, _, _, rfl, ?_⟩
  refine K_nb (st' := []) rfl ?_
  have g70 : (-1) ≤ m64.1 206 ∧ m64.1 206 ≤ 65535 := Tm64.1 206
  replace h65 : (m52.1 206) = (93 : Int) := h65
  replace h66 : (m52.1 213) = 0 := h66
  rewrite [(show (m52.1 213) = (m.1 213) from ((fr1 Fm52 213 rfl).trans ((fr1 Fm43 213 rfl).trans ((fr1 Fm32 213 rfl).trans ((fr1 Fm23 213 rfl).trans ((fr1 Fm11 213 rfl).trans (fr1 Fm3 213 rfl)))))))] at h66
  refine T_ld 107 (.ref 178) rfl (fun _ => rfl) ?_
  refine K_gf 110 (.ref 6) rfl rfl kd_178 rfl rfl rfl ?_
  refine T_ld 112 (.int (i32 59)) rfl (fun _ => rfl) ?_
  refine T_callx 115 78 [.ref 6, .int (i32 59)] [] rfl (fun _ => rfl) rfl rfl (c_tx_expect w (mO m64 [] []) c N D (by omega) Tm64 59 ⟨by decide, by decide⟩) (fun rr71 k72 => ?_)
  rcases k72 with ⟨m73, Tm73, Fm73, h74, h75, rfl⟩ | ⟨xx78, m76, hx77, Tm76, Fm76, rfl⟩
  rotate_left
  · skip
    refine Or.inr ⟨_, _, _, _, rfl, ?_⟩
    exact Or.inr ⟨xx78, (mO m76 [] []), (hx77), Tm76, (fr_m (fr_s Fm76 (fr_m (fr_s Fm64 (fr_m (fr_s Fm52 (fr_m (fr_s Fm43 (fr_m (fr_s Fm32 (fr_m (fr_s Fm23 (fr_m (fr_s Fm11 (fr_m (fr_s Fm3 (fr_m fr_0 rfl rfl) rfl rfl) rfl rfl) rfl rfl) rfl rfl) rfl rfl) rfl rfl) rfl rfl) rfl rfl) rfl rfl) rfl rfl) rfl rfl) rfl rfl) rfl rfl) rfl rfl) rfl rfl) rfl rfl), rfl⟩
  refine Or.inl ⟨_, _, _, _, rfl, ?_⟩
  refine K_nb (st' := []) rfl ?_
  have g79 : (-1) ≤ m73.1 206 ∧ m73.1 206 ≤ 65535 := Tm73.1 206
  replace h74 : (m64.1 206) = (59 : Int) := h74
  replace h75 : (m64.1 213) = 0 := h75
  rewrite [(show (m64.1 213) = (m.1 213) from ((fr1 Fm64 213 rfl).trans ((fr1 Fm52 213 rfl).trans ((fr1 Fm43 213 rfl).trans ((fr1 Fm32 213 rfl).trans ((fr1 Fm23 213 rfl).trans ((fr1 Fm11 213 rfl).trans (fr1 Fm3 213 rfl))))))))] at h75
  refine T_ret rfl (fun _ => rfl) ?_
  exact Or.inl ⟨(mO m73 [] []), Tm73, (fr_m (fr_s Fm73 (fr_m (fr_s Fm64 (fr_m (fr_s Fm52 (fr_m (fr_s Fm43 (fr_m (fr_s Fm32 (fr_m (fr_s Fm23 (fr_m (fr_s Fm11 (fr_m (fr_s Fm3 (fr_m fr_0 rfl rfl) rfl rfl) rfl rfl) rfl rfl) rfl rfl) rfl rfl) rfl rfl) rfl rfl) rfl rfl) rfl rfl) rfl rfl) rfl rfl) rfl rfl) rfl rfl) rfl rfl) rfl rfl) rfl rfl), (show KPp (m73.1 203) (m73.2 8) (m73.2 9) (m.1 214) (m.1 215) (m.1 216) (m73.1 217) (m.1 221) (m.1 223) (m.1 219) by rewrite [(show (m73.1 203) = (m11.1 203) from ((fr1 Fm73 203 rfl).trans ((fr1 Fm64 203 rfl).trans ((fr1 Fm52 203 rfl).trans ((fr1 Fm43 203 rfl).trans ((fr1 Fm32 203 rfl).trans (fr1 Fm23 203 rfl))))))), (show (m73.2 8) = (m11.2 8) from ((fr2 Fm73 8 rfl).trans ((fr2 Fm64 8 rfl).trans ((fr2 Fm52 8 rfl).trans ((fr2 Fm43 8 rfl).trans ((fr2 Fm32 8 rfl).trans (fr2 Fm23 8 rfl))))))), (show (m73.2 9) = (m11.2 9) from ((fr2 Fm73 9 rfl).trans ((fr2 Fm64 9 rfl).trans ((fr2 Fm52 9 rfl).trans ((fr2 Fm43 9 rfl).trans ((fr2 Fm32 9 rfl).trans (fr2 Fm23 9 rfl))))))), (show (m73.1 217) = ((m.1 217) + 1) from ((fr1 Fm73 217 rfl).trans ((fr1 Fm64 217 rfl).trans ((fr1 Fm52 217 rfl).trans ((fr1 Fm43 217 rfl).trans ((fr1 Fm32 217 rfl).trans (fr1 Fm23 217 rfl)))))))]; first | (exact pKP) | (exfalso; omega)), rfl⟩
def fF_rd_extract : List Nat := [205, 206, 207, 208, 209, 210, 211, 212]
def fA_rd_extract : List Nat := [26, 27]
def Q_rd_extract (m : mR) (c : Nat → Option am_C) (N : Nat) (s : Int) (i : Int) : ag_Re af_T → Prop := fun R => (∃ (M : mR), KTy M ∧ fr fF_rd_extract fA_rd_extract m M ∧ R = (.inl (none), (khp M c, N), 0, 0)) ∨ (∃ (x : Nat) (M : mR), (x = 0) ∧ (KTy M) ∧ (fr fF_rd_extract fA_rd_extract m M) ∧ R = (.inr x, (khp M c, N), 1, 6))
set_option maxHeartbeats 3000000 in
theorem c_rd_extract (w : wX) (m : mR) (c : Nat → Option am_C) (N D : Nat) (hD : 9 ≤ D) (hT : KTy m) (s : Int) (i : Int) (qs : R32 s) (qi : R32 i) (pKP : KPp (m.1 203) (m.2 8) (m.2 9) (m.1 214) (m.1 215) (m.1 216) (m.1 217) (m.1 221) (m.1 223) (m.1 219)) (p1 : 0 ≤ s ∧ s ≤ 15) (p2 : 0 ≤ i ∧ i ≤ 6) : TC w D 90 [.ref 178, .int (i32 s), .int (i32 i)] (khp m c, N) (Q_rd_extract m c N s i) := by
  obtain ⟨D, rfl⟩ : ∃ k, D = k + 1 := ⟨D - 1, by omega⟩
  obtain ⟨qsa, qsb⟩ := id qs
  obtain ⟨qia, qib⟩ := id qi
  have f206 : (-1) ≤ m.1 206 ∧ m.1 206 ≤ 65535 := hT.1 206
  have f207 : 0 ≤ m.1 207 ∧ m.1 207 ≤ 4001 := hT.1 207
  have f203 : 0 ≤ m.1 203 ∧ m.1 203 ≤ 90 := hT.1 203
  have f213 : 0 ≤ m.1 213 ∧ m.1 213 ≤ 1 := hT.1 213
  have f214 : 0 ≤ m.1 214 ∧ m.1 214 ≤ 12 := hT.1 214
  have f215 : 0 ≤ m.1 215 ∧ m.1 215 ≤ 12 := hT.1 215
  have f216 : 0 ≤ m.1 216 ∧ m.1 216 ≤ 16 := hT.1 216
  have f217 : 0 ≤ m.1 217 ∧ m.1 217 ≤ 8 := hT.1 217
  have f219 : 0 ≤ m.1 219 ∧ m.1 219 ≤ 8 := hT.1 219
  have f221 : 0 ≤ m.1 221 ∧ m.1 221 ≤ 16 := hT.1 221
  have f223 : 0 ≤ m.1 223 ∧ m.1 223 ≤ 16 := hT.1 223
  refine Tc_of rfl ?_
  rw [show (khp m c, N) = (khp (mO m [] []) c, N) from by rw [mO_nil m]]
  show TT w D pm_90 (0, [(0, .ref 178), (1, .int (i32 s)), (2, .int (i32 i))], [], (khp (mO m [] []) c, N), 0, 0) (Q_rd_extract m c N s i)
  refine T_ld 1 (.int (i32 i)) rfl (fun _ => rfl) ?_
  refine T_ld 3 (.int (i32 6)) rfl (fun _ => rfl) ?_
  refine T_icmp 21 6 rfl rfl rfl (r32 (by omega) (by omega)) ⟨by decide, by decide⟩ (fun (h1 : i < 6) => ?_) (fun (h1 : ¬ (i < 6)) => ?_)
  · skip
    refine T_ld 22 (.ref 178) rfl (fun _ => rfl) ?_
    refine K_gf 25 (.ref 6) rfl rfl kd_178 rfl rfl rfl ?_
    refine T_callx 28 50 [.ref 6] [] rfl (fun _ => rfl) rfl rfl (c_tx_advance w (mO m [] []) c N D (by omega) hT ) (fun rr2 k3 => ?_)
    rcases k3 with ⟨m4, Tm4, Fm4, h5, rfl⟩ | ⟨xx8, m6, hx7, Tm6, Fm6, rfl⟩
    rotate_left
    · skip
      refine Or.inr ⟨_, _, _, _, rfl, ?_⟩
      exact Or.inr ⟨xx8, (mO m6 [] []), (hx7), Tm6, (fr_m (fr_s Fm6 (fr_m fr_0 rfl rfl) rfl rfl) rfl rfl), rfl⟩
    refine Or.inl ⟨_, _, _, _, rfl, ?_⟩
    refine K_nb (st' := []) rfl ?_
    have g9 : (-1) ≤ m4.1 206 ∧ m4.1 206 ≤ 65535 := Tm4.1 206
    have g10 : 0 ≤ m4.1 207 ∧ m4.1 207 ≤ 4001 := Tm4.1 207
    replace h5 : (m.1 213) = 0 := h5
    refine T_ld 29 (.ref 178) rfl (fun _ => rfl) ?_
    refine K_gf 32 (.ref 31) rfl rfl kd_178 rfl rfl rfl ?_
    refine K_gf 35 (.ref 33) rfl rfl kd_31 rfl rfl rfl ?_
    refine T_ld 36 (.int (i32 s)) rfl (fun _ => rfl) ?_
    refine T_ld 38 (.int (i32 6)) rfl (fun _ => rfl) ?_
    refine T_imul 39 rfl rfl ?_
    refine T_ld 40 (.int (i32 i)) rfl (fun _ => rfl) ?_
    refine T_iadd 41 rfl rfl ?_
    refine T_ld 42 (.ref 178) rfl (fun _ => rfl) ?_
    refine K_gf 45 (.ref 6) rfl rfl kd_178 rfl rfl rfl ?_
    refine T_ld 48 (.int (i32 301)) rfl (fun _ => rfl) ?_
    refine T_callx 51 83 [.ref 6, .int (i32 301)] [.int (i32 ((s * 6) + i)), .ref 33] rfl (fun _ => rfl) rfl rfl (c_tx_known w (mO m4 [] []) c N D (by omega) Tm4 301 ⟨by decide, by decide⟩) (fun rr11 k12 => ?_)
    rcases k12 with ⟨m13, kn, Tm13, Fm13, g14, h15, h16, h17, rfl⟩ | ⟨xx20, m18, hx19, Tm18, Fm18, rfl⟩
    rotate_left
    · skip
      refine Or.inr ⟨_, _, _, _, rfl, ?_⟩
      exact Or.inr ⟨xx20, (mO m18 [] []), (hx19), Tm18, (fr_m (fr_s Fm18 (fr_m (fr_s Fm4 (fr_m fr_0 rfl rfl) rfl rfl) rfl rfl) rfl rfl) rfl rfl), rfl⟩
    refine Or.inl ⟨_, _, _, _, rfl, ?_⟩
    refine K_nb (st' := [.int (i32 kn), .int (i32 ((s * 6) + i)), .ref 33]) rfl ?_
    obtain ⟨g14a, g14b⟩ := g14
    have g21 : (-1) ≤ m13.1 206 ∧ m13.1 206 ≤ 65535 := Tm13.1 206
    have g22 : 0 ≤ m13.1 207 ∧ m13.1 207 ≤ 4001 := Tm13.1 207
    replace h15 : KNo (m4.1 203) (m4.2 8) (m4.2 9) (301 : Int) kn := h15
    rewrite [(show (m4.1 203) = (m.1 203) from (fr1 Fm4 203 rfl)), (show (m4.2 8) = (m.2 8) from (fr2 Fm4 8 rfl)), (show (m4.2 9) = (m.2 9) from (fr2 Fm4 9 rfl))] at h15
    have hKn := h15
    replace h16 : (m4.1 213) = 0 := h16
    rewrite [(show (m4.1 213) = (m.1 213) from (fr1 Fm4 213 rfl))] at h16
    replace h17 : (m4.1 206) = 256 := h17
    have hkn := KNo_w pKP hKn
    have G23 : ∀ j, 0 ≤ (upI (m.2 27) ((s * 6) + i) kn) j ∧ (upI (m.2 27) ((s * 6) + i) kn) j ≤ 11 := upI_rg (hT.2.1 27) ⟨by omega, by omega⟩
    refine K_iast (a' := [(27, upI (m.2 27) ((s * 6) + i) kn)]) 52 27 (m.2 27) rfl rfl rfl (by omega) (show ((s * 6) + i) < (96 : Int) by omega) (show (m13.2 27) = (m.2 27) from ((fr2 Fm13 27 rfl).trans (fr2 Fm4 27 rfl))) rfl ?_
    refine T_ld 53 (.ref 178) rfl (fun _ => rfl) ?_
    refine K_gf 56 (.ref 31) rfl rfl kd_178 rfl rfl rfl ?_
    refine K_gf 59 (.ref 32) rfl rfl kd_31 rfl rfl rfl ?_
    refine T_ld 60 (.int (i32 s)) rfl (fun _ => rfl) ?_
    refine T_ld 61 (.int (i32 i)) rfl (fun _ => rfl) ?_
    refine T_ld 62 (.int (i32 1)) rfl (fun _ => rfl) ?_
    refine T_iadd 63 rfl rfl ?_
    have G24 : ∀ j, 0 ≤ (upI (m.2 26) s (i + 1)) j ∧ (upI (m.2 26) s (i + 1)) j ≤ 6 := upI_rg (hT.2.1 26) ⟨by omega, by omega⟩
    refine K_iast (a' := [(26, upI (m.2 26) s (i + 1)), (27, upI (m.2 27) ((s * 6) + i) kn)]) 64 26 (m.2 26) rfl rfl rfl (by omega) (show s < (16 : Int) by omega) (show (m13.2 26) = (m.2 26) from ((fr2 Fm13 26 rfl).trans (fr2 Fm4 26 rfl))) rfl ?_
    refine T_ld 65 (.ref 178) rfl (fun _ => rfl) ?_
    refine K_gf 68 (.ref 6) rfl rfl kd_178 rfl rfl rfl ?_
    refine T_ld 70 (.int (i32 59)) rfl (fun _ => rfl) ?_
    refine T_callx 73 78 [.ref 6, .int (i32 59)] [] rfl (fun _ => rfl) rfl rfl (c_tx_expect w (mO m13 [] [(26, upI (m.2 26) s (i + 1)), (27, upI (m.2 27) ((s * 6) + i) kn)]) c N D (by omega) (KTy_mO Tm13 rfl rfl trivial ⟨G24, G23, trivial⟩) 59 ⟨by decide, by decide⟩) (fun rr25 k26 => ?_)
    rcases k26 with ⟨m27, Tm27, Fm27, h28, h29, rfl⟩ | ⟨xx32, m30, hx31, Tm30, Fm30, rfl⟩
    rotate_left
    · skip
      refine Or.inr ⟨_, _, _, _, rfl, ?_⟩
      exact Or.inr ⟨xx32, (mO m30 [] []), (hx31), Tm30, (fr_m (fr_s Fm30 (fr_m (fr_s Fm13 (fr_m (fr_s Fm4 (fr_m fr_0 rfl rfl) rfl rfl) rfl rfl) rfl rfl) rfl rfl) rfl rfl) rfl rfl), rfl⟩
    refine Or.inl ⟨_, _, _, _, rfl, ?_⟩
    refine K_nb (st' := []) rfl ?_
    have g33 : (-1) ≤ m27.1 206 ∧ m27.1 206 ≤ 65535 := Tm27.1 206
    have g34 : 0 ≤ m27.1 207 ∧ m27.1 207 ≤ 4001 := Tm27.1 207
    replace h28 : (m13.1 206) = (59 : Int) := h28
    replace h29 : (m13.1 213) = 0 := h29
    rewrite [(show (m13.1 213) = (m.1 213) from ((fr1 Fm13 213 rfl).trans (fr1 Fm4 213 rfl)))] at h29
    refine T_ret rfl (fun _ => rfl) ?_
    exact Or.inl ⟨(mO m27 [] []), Tm27, (fr_m (fr_s Fm27 (fr_m (fr_s Fm13 (fr_m (fr_s Fm4 (fr_m fr_0 rfl rfl) rfl rfl) rfl rfl) rfl rfl) rfl rfl) rfl rfl) rfl rfl), rfl⟩
  · skip
    refine T_ld 7 (.ref 178) rfl (fun _ => rfl) ?_
    refine K_gf 10 (.ref 6) rfl rfl kd_178 rfl rfl rfl ?_
    refine T_ld 11 (.int (i32 4)) rfl (fun _ => rfl) ?_
    refine T_ld 12 (.ref 178) rfl (fun _ => rfl) ?_
    refine K_gf 15 (.ref 6) rfl rfl kd_178 rfl rfl rfl ?_
    refine K_gf 18 (.int (i32 (m.1 207))) rfl rfl kd_6 rfl rfl rfl ?_
    refine T_callx 21 51 [.ref 6, .int (i32 4), .int (i32 (m.1 207))] [] rfl (fun _ => rfl) rfl rfl (c_tx_fail w (mO m [] []) c N D (by omega) hT 4 (m.1 207) ⟨by decide, by decide⟩ (r32 (by omega) (by omega)) (show 1 ≤ (4 : Int) ∧ (4 : Int) ≤ 8 by omega) (show 0 ≤ (m.1 207) ∧ (m.1 207) ≤ 4001 by omega)) (fun rr35 k36 => ?_)
    rcases k36 with ⟨m37, Tm37, Fm37, h38, rfl⟩ | ⟨xx41, m39, hx40, Tm39, Fm39, rfl⟩
    rotate_left
    · skip
      refine Or.inr ⟨_, _, _, _, rfl, ?_⟩
      exact Or.inr ⟨xx41, (mO m39 [] []), (hx40), Tm39, (fr_m (fr_s Fm39 (fr_m fr_0 rfl rfl) rfl rfl) rfl rfl), rfl⟩
    exact h38.elim
def fF_rd_fittingNumber : List Nat := [205, 206, 207, 208, 209, 210, 211, 212]
def fA_rd_fittingNumber : List Nat := []
def Q_rd_fittingNumber (m : mR) (c : Nat → Option am_C) (N : Nat) (u : Int) : ag_Re af_T → Prop := fun R => (∃ (M : mR) (r : Int), KTy M ∧ fr fF_rd_fittingNumber fA_rd_fittingNumber m M ∧ ((-9223372036854775808) ≤ r ∧ r ≤ 9223372036854775807) ∧ R = (.inl (some (.long (i64 r))), (khp M c, N), 0, 0)) ∨ (∃ (x : Nat) (M : mR), (x = 0) ∧ (KTy M) ∧ (fr fF_rd_fittingNumber fA_rd_fittingNumber m M) ∧ R = (.inr x, (khp M c, N), 1, 6))
set_option maxHeartbeats 3000000 in
theorem c_rd_fittingNumber (w : wX) (m : mR) (c : Nat → Option am_C) (N D : Nat) (hD : 9 ≤ D) (hT : KTy m) (u : Int) (qu : R32 u) : TC w D 115 [.ref 178, .int (i32 u)] (khp m c, N) (Q_rd_fittingNumber m c N u) := by
  obtain ⟨D, rfl⟩ : ∃ k, D = k + 1 := ⟨D - 1, by omega⟩
  obtain ⟨qua, qub⟩ := id qu
  have f206 : (-1) ≤ m.1 206 ∧ m.1 206 ≤ 65535 := hT.1 206
  have f207 : 0 ≤ m.1 207 ∧ m.1 207 ≤ 4001 := hT.1 207
  have f208 : (-9223372036854775808) ≤ m.1 208 ∧ m.1 208 ≤ 9223372036854775807 := hT.1 208
  have f213 : 0 ≤ m.1 213 ∧ m.1 213 ≤ 1 := hT.1 213
  refine Tc_of rfl ?_
  rw [show (khp m c, N) = (khp (mO m [] []) c, N) from by rw [mO_nil m]]
  show TT w D pm_115 (0, [(0, .ref 178), (1, .int (i32 u))], [], (khp (mO m [] []) c, N), 0, 0) (Q_rd_fittingNumber m c N u)
  refine T_ld 1 (.ref 178) rfl (fun _ => rfl) ?_
  refine K_gf 4 (.ref 6) rfl rfl kd_178 rfl rfl rfl ?_
  refine K_gf 7 (.long (i64 (m.1 208))) rfl rfl kd_6 rfl rfl rfl ?_
  refine T_sto 8 [(2, .long (i64 (m.1 208))), (0, .ref 178), (1, .int (i32 u))] rfl (fun _ => rfl) ?_
  refine T_ld 9 (.ref 178) rfl (fun _ => rfl) ?_
  refine K_gf 12 (.ref 6) rfl rfl kd_178 rfl rfl rfl ?_
  refine K_gf 15 (.int (i32 (m.1 207))) rfl rfl kd_6 rfl rfl rfl ?_
  refine T_sto 17 [(4, .int (i32 (m.1 207))), (2, .long (i64 (m.1 208))), (0, .ref 178), (1, .int (i32 u))] rfl (fun _ => rfl) ?_
  refine T_ld 18 (.ref 178) rfl (fun _ => rfl) ?_
  refine K_gf 21 (.ref 6) rfl rfl kd_178 rfl rfl rfl ?_
  refine T_ld 24 (.int (i32 257)) rfl (fun _ => rfl) ?_
  refine T_callx 27 78 [.ref 6, .int (i32 257)] [] rfl (fun _ => rfl) rfl rfl (c_tx_expect w (mO m [] []) c N D (by omega) hT 257 ⟨by decide, by decide⟩) (fun rr1 k2 => ?_)
  rcases k2 with ⟨m3, Tm3, Fm3, h4, h5, rfl⟩ | ⟨xx8, m6, hx7, Tm6, Fm6, rfl⟩
  rotate_left
  · skip
    refine Or.inr ⟨_, _, _, _, rfl, ?_⟩
    exact Or.inr ⟨xx8, (mO m6 [] []), (hx7), Tm6, (fr_m (fr_s Fm6 (fr_m fr_0 rfl rfl) rfl rfl) rfl rfl), rfl⟩
  refine Or.inl ⟨_, _, _, _, rfl, ?_⟩
  refine K_nb (st' := []) rfl ?_
  have g9 : (-1) ≤ m3.1 206 ∧ m3.1 206 ≤ 65535 := Tm3.1 206
  have g10 : 0 ≤ m3.1 207 ∧ m3.1 207 ≤ 4001 := Tm3.1 207
  have g11 : (-9223372036854775808) ≤ m3.1 208 ∧ m3.1 208 ≤ 9223372036854775807 := Tm3.1 208
  replace h4 : (m.1 206) = (257 : Int) := h4
  replace h5 : (m.1 213) = 0 := h5
  refine T_ld 28 (.long (i64 (m.1 208))) rfl (fun _ => rfl) ?_
  refine T_ld 29 (.int (i32 u)) rfl (fun _ => rfl) ?_
  refine T_callx 32 116 [.int (i32 u)] [.long (i64 (m.1 208))] rfl (fun _ => rfl) rfl rfl (c_pw_ones w (mO m3 [] []) c N D (by omega) Tm3 u (r32 (by omega) (by omega))) (fun rr12 k13 => ?_)
  obtain ⟨x14, g15, rfl⟩ := k13
  refine Or.inl ⟨_, _, _, _, rfl, ?_⟩
  refine T_ns (st' := [.long (i64 x14), .long (i64 (m.1 208))]) rfl ?_
  obtain ⟨g15a, g15b⟩ := g15
  refine T_ld 35 (.long (i64 (-1))) rfl (fun _ => rfl) ?_
  refine T_lhv 36 _ rfl (fun _ => rfl) (fun z16 h17 => ?_)
  obtain ⟨h17a, h17b⟩ := h17
  refine T_lhv 37 _ rfl (fun _ => rfl) (fun z18 h19 => ?_)
  obtain ⟨h19a, h19b⟩ := h19
  refine T_ld 38 (.long (i64 0)) rfl (fun _ => rfl) ?_
  refine T_lcmp 39 rfl rfl (r64 (by omega) (by omega)) ⟨by decide, by decide⟩ (fun z20 h21 => ?_)
  obtain ⟨h21a, h21b, h21c, h21d, h21e⟩ := h21
  refine T_if 53 42 rfl rfl rfl (r32 (by omega) (by omega)) (fun (h22 : z20 = 0) => ?_) (fun (h22 : ¬ (z20 = 0)) => ?_)
  · skip
    have hl23 : z18 = 0 := by omega
    refine T_ld 54 (.long (i64 (m.1 208))) rfl (fun _ => rfl) ?_
    refine T_ret rfl (fun _ => rfl) ?_
    exact Or.inl ⟨(mO m3 [] []), (m.1 208), Tm3, (fr_m (fr_s Fm3 (fr_m fr_0 rfl rfl) rfl rfl) rfl rfl), ⟨by omega, by omega⟩, rfl⟩
  · skip
    have hl24 : z18 ≠ 0 := by omega
    refine T_ld 43 (.ref 178) rfl (fun _ => rfl) ?_
    refine K_gf 46 (.ref 6) rfl rfl kd_178 rfl rfl rfl ?_
    refine T_ld 48 (.int (i32 7)) rfl (fun _ => rfl) ?_
    refine T_ld 50 (.int (i32 (m.1 207))) rfl (fun _ => rfl) ?_
    refine T_callx 53 51 [.ref 6, .int (i32 7), .int (i32 (m.1 207))] [] rfl (fun _ => rfl) rfl rfl (c_tx_fail w (mO m3 [] []) c N D (by omega) Tm3 7 (m.1 207) ⟨by decide, by decide⟩ (r32 (by omega) (by omega)) (show 1 ≤ (7 : Int) ∧ (7 : Int) ≤ 8 by omega) (show 0 ≤ (m.1 207) ∧ (m.1 207) ≤ 4001 by omega)) (fun rr25 k26 => ?_)
    rcases k26 with ⟨m27, Tm27, Fm27, h28, rfl⟩ | ⟨xx31, m29, hx30, Tm29, Fm29, rfl⟩
    rotate_left
    · skip
      refine Or.inr ⟨_, _, _, _, rfl, ?_⟩
      exact Or.inr ⟨xx31, (mO m29 [] []), (hx30), Tm29, (fr_m (fr_s Fm29 (fr_m (fr_s Fm3 (fr_m fr_0 rfl rfl) rfl rfl) rfl rfl) rfl rfl) rfl rfl), rfl⟩
    exact h28.elim
def fF_rd_goal : List Nat := [203, 205, 206, 207, 208, 209, 210, 211, 212, 221]
def fA_rd_goal : List Nat := [6, 7, 8, 9, 26, 29, 30, 35, 36]
def Q_rd_goal (m : mR) (c : Nat → Option am_C) (N : Nat) : ag_Re af_T → Prop := fun R => (∃ (M : mR) (r : Int), KTy M ∧ fr fF_rd_goal fA_rd_goal m M ∧ (0 ≤ r ∧ r ≤ 17) ∧ (KPp (M.1 203) (M.2 8) (M.2 9) (m.1 214) (m.1 215) (m.1 216) (m.1 217) (M.1 221) (m.1 223) (m.1 219)) ∧ (SSp (m.1 222) (M.2 36) (M.1 221)) ∧ ((m.1 221) ≤ (M.1 221)) ∧ R = (.inl (some (.int (i32 r))), (khp M c, N), 0, 0)) ∨ (∃ (x : Nat) (M : mR), (x = 0) ∧ (KTy M) ∧ (fr fF_rd_goal fA_rd_goal m M) ∧ R = (.inr x, (khp M c, N), 1, 6))
set_option maxHeartbeats 3000000 in
theorem c_rd_goal (w : wX) (m : mR) (c : Nat → Option am_C) (N D : Nat) (hD : 9 ≤ D) (hT : KTy m) (pKP : KPp (m.1 203) (m.2 8) (m.2 9) (m.1 214) (m.1 215) (m.1 216) (m.1 217) (m.1 221) (m.1 223) (m.1 219)) (hSS : SSp (m.1 222) (m.2 36) (m.1 221)) : TC w D 117 [.ref 178] (khp m c, N) (Q_rd_goal m c N) := by
  obtain ⟨D, rfl⟩ : ∃ k, D = k + 1 := ⟨D - 1, by omega⟩
  have f203 : 0 ≤ m.1 203 ∧ m.1 203 ≤ 90 := hT.1 203
  have f206 : (-1) ≤ m.1 206 ∧ m.1 206 ≤ 65535 := hT.1 206
  have f207 : 0 ≤ m.1 207 ∧ m.1 207 ≤ 4001 := hT.1 207
  have f221 : 0 ≤ m.1 221 ∧ m.1 221 ≤ 16 := hT.1 221
  have f213 : 0 ≤ m.1 213 ∧ m.1 213 ≤ 1 := hT.1 213
  have f214 : 0 ≤ m.1 214 ∧ m.1 214 ≤ 12 := hT.1 214
  have f215 : 0 ≤ m.1 215 ∧ m.1 215 ≤ 12 := hT.1 215
  have f216 : 0 ≤ m.1 216 ∧ m.1 216 ≤ 16 := hT.1 216
  have f217 : 0 ≤ m.1 217 ∧ m.1 217 ≤ 8 := hT.1 217
  have f219 : 0 ≤ m.1 219 ∧ m.1 219 ≤ 8 := hT.1 219
  have f222 : 0 ≤ m.1 222 ∧ m.1 222 ≤ 16 := hT.1 222
  have f223 : 0 ≤ m.1 223 ∧ m.1 223 ≤ 16 := hT.1 223
  refine Tc_of rfl ?_
  rw [show (khp m c, N) = (khp (mO m [] []) c, N) from by rw [mO_nil m]]
  show TT w D pm_117 (0, [(0, .ref 178)], [], (khp (mO m [] []) c, N), 0, 0) (Q_rd_goal m c N)
  refine T_ld 1 (.ref 178) rfl (fun _ => rfl) ?_
  refine K_gf 4 (.ref 6) rfl rfl kd_178 rfl rfl rfl ?_
  refine K_gf 7 (.int (i32 (m.1 206))) rfl rfl kd_6 rfl rfl rfl ?_
  refine T_ld 10 (.int (i32 256)) rfl (fun _ => rfl) ?_
  refine T_icmp 24 13 rfl rfl rfl (r32 (by omega) (by omega)) ⟨by decide, by decide⟩ (fun (h1 : (m.1 206) ≠ 256) => ?_) (fun (h1 : ¬ ((m.1 206) ≠ 256)) => ?_)
  · skip
    refine T_ld 25 (.ref 178) rfl (fun _ => rfl) ?_
    refine K_gf 28 (.ref 6) rfl rfl kd_178 rfl rfl rfl ?_
    refine T_ld 31 (.int (i32 304)) rfl (fun _ => rfl) ?_
    refine T_callx 34 83 [.ref 6, .int (i32 304)] [] rfl (fun _ => rfl) rfl rfl (c_tx_known w (mO m [] []) c N D (by omega) hT 304 ⟨by decide, by decide⟩) (fun rr2 k3 => ?_)
    rcases k3 with ⟨m4, kn, Tm4, Fm4, g5, h6, h7, h8, rfl⟩ | ⟨xx11, m9, hx10, Tm9, Fm9, rfl⟩
    rotate_left
    · skip
      refine Or.inr ⟨_, _, _, _, rfl, ?_⟩
      exact Or.inr ⟨xx11, (mO m9 [] []), (hx10), Tm9, (fr_m (fr_s Fm9 (fr_m fr_0 rfl rfl) rfl rfl) rfl rfl), rfl⟩
    refine Or.inl ⟨_, _, _, _, rfl, ?_⟩
    refine K_nb (st' := [.int (i32 kn)]) rfl ?_
    obtain ⟨g5a, g5b⟩ := g5
    have g12 : (-1) ≤ m4.1 206 ∧ m4.1 206 ≤ 65535 := Tm4.1 206
    have g13 : 0 ≤ m4.1 207 ∧ m4.1 207 ≤ 4001 := Tm4.1 207
    replace h6 : KNo (m.1 203) (m.2 8) (m.2 9) (304 : Int) kn := h6
    have hKn := h6
    replace h7 : (m.1 213) = 0 := h7
    replace h8 : (m.1 206) = 256 := h8
    refine T_ret rfl (fun _ => rfl) ?_
    exact Or.inl ⟨(mO m4 [] []), kn, Tm4, (fr_m (fr_s Fm4 (fr_m fr_0 rfl rfl) rfl rfl) rfl rfl), ⟨by omega, by omega⟩, (show KPp (m4.1 203) (m4.2 8) (m4.2 9) (m.1 214) (m.1 215) (m.1 216) (m.1 217) (m4.1 221) (m.1 223) (m.1 219) by rewrite [(show (m4.1 203) = (m.1 203) from (fr1 Fm4 203 rfl)), (show (m4.2 8) = (m.2 8) from (fr2 Fm4 8 rfl)), (show (m4.2 9) = (m.2 9) from (fr2 Fm4 9 rfl)), (show (m4.1 221) = (m.1 221) from (fr1 Fm4 221 rfl))]; first | (exact pKP) | (exfalso; omega)), (show SSp (m.1 222) (m4.2 36) (m4.1 221) by rewrite [(show (m4.2 36) = (m.2 36) from (fr2 Fm4 36 rfl)), (show (m4.1 221) = (m.1 221) from (fr1 Fm4 221 rfl))]; first | (exact hSS) | (exfalso; omega)), (show (m.1 221) ≤ (m4.1 221) by rewrite [(show (m4.1 221) = (m.1 221) from (fr1 Fm4 221 rfl))]; omega), rfl⟩
  · skip
    refine T_ld 14 (.ref 178) rfl (fun _ => rfl) ?_
    refine K_gf 17 (.ref 6) rfl rfl kd_178 rfl rfl rfl ?_
    refine T_callx 20 77 [.ref 6] [] rfl (fun _ => rfl) rfl rfl (c_tx_find w (mO m [] []) c N D (by omega) hT ) (fun rr14 k15 => ?_)
    obtain ⟨fi, g16, h17, rfl⟩ := k15
    refine Or.inl ⟨_, _, _, _, rfl, ?_⟩
    refine T_ns (st' := [.int (i32 fi)]) rfl ?_
    obtain ⟨g16a, g16b⟩ := g16
    replace h17 : fi < (m.1 203) := h17
    refine T_ld 21 (.int (i32 (-1))) rfl (fun _ => rfl) ?_
    refine T_icmp 35 24 rfl rfl rfl (r32 (by omega) (by omega)) ⟨by decide, by decide⟩ (fun (h18 : fi = (-1)) => ?_) (fun (h18 : ¬ (fi = (-1))) => ?_)
    · skip
      refine T_ld 36 (.ref 178) rfl (fun _ => rfl) ?_
      refine K_gf 39 (.ref 6) rfl rfl kd_178 rfl rfl rfl ?_
      refine K_gf 42 (.int (i32 (m.1 207))) rfl rfl kd_6 rfl rfl rfl ?_
      refine T_sto 43 [(1, .int (i32 (m.1 207))), (0, .ref 178)] rfl (fun _ => rfl) ?_
      refine T_ld 44 (.ref 178) rfl (fun _ => rfl) ?_
      refine K_gf 47 (.ref 6) rfl rfl kd_178 rfl rfl rfl ?_
      refine T_ld 50 (.int (i32 304)) rfl (fun _ => rfl) ?_
      refine T_ld 51 (.ref 178) rfl (fun _ => rfl) ?_
      refine K_gf 54 (.ref 31) rfl rfl kd_178 rfl rfl rfl ?_
      refine K_gf 57 (.int (i32 (m.1 221))) rfl rfl kd_31 rfl rfl rfl ?_
      refine T_ld 59 (.int (i32 16)) rfl (fun _ => rfl) ?_
      refine T_callx 62 75 [.ref 6, .int (i32 304), .int (i32 (m.1 221)), .int (i32 16)] [] rfl (fun _ => rfl) rfl rfl (c_tx_makeNew w (mO m [] []) c N D (by omega) hT 304 (m.1 221) 16 ⟨by decide, by decide⟩ (r32 (by omega) (by omega)) ⟨by decide, by decide⟩ (show 0 ≤ (304 : Int) ∧ (304 : Int) ≤ 310 by omega) (show 0 ≤ (m.1 221) ∧ (16 : Int) ≤ 16 by omega)) (fun rr19 k20 => ?_)
      rcases k20 with ⟨m21, Tm21, Fm21, h22, h23, h24, rfl⟩ | ⟨xx27, m25, hx26, Tm25, Fm25, rfl⟩
      rotate_left
      · skip
        refine Or.inr ⟨_, _, _, _, rfl, ?_⟩
        exact Or.inr ⟨xx27, (mO m25 [] []), (hx26), Tm25, (fr_m (fr_s Fm25 (fr_m fr_0 rfl rfl) rfl rfl) rfl rfl), rfl⟩
      refine Or.inl ⟨_, _, _, _, rfl, ?_⟩
      refine K_nb (st' := []) rfl ?_
      have g28 : 0 ≤ m21.1 203 ∧ m21.1 203 ≤ 90 := Tm21.1 203
      have g29 : (-1) ≤ m21.1 206 ∧ m21.1 206 ≤ 65535 := Tm21.1 206
      have g30 : 0 ≤ m21.1 207 ∧ m21.1 207 ≤ 4001 := Tm21.1 207
      replace h22 : (m.1 221) < (16 : Int) := h22
      replace h23 : KMk (m.1 203) (m21.1 203) (m.2 8) (m21.2 8) (m.2 9) (m21.2 9) (304 : Int) (m.1 221) := h23
      have hMk := h23
      replace h24 : (m.1 213) = 0 := h24
      refine T_ld 63 (.ref 178) rfl (fun _ => rfl) ?_
      refine K_gf 66 (.ref 31) rfl rfl kd_178 rfl rfl rfl ?_
      refine T_ld 67 (.int (i32 (m.1 207))) rfl (fun _ => rfl) ?_
      refine T_callx 70 88 [.ref 31, .int (i32 (m.1 207))] [] rfl (fun _ => rfl) rfl rfl (c_ss_add w (mO m21 [] []) c N D (by omega) Tm21 (m.1 207) (r32 (by omega) (by omega)) (show (m21.1 221) ≤ 15 by rewrite [(show (m21.1 221) = (m.1 221) from (fr1 Fm21 221 rfl))]; omega) (show 0 ≤ (m.1 207) ∧ (m.1 207) ≤ 4001 by omega)) (fun rr31 k32 => ?_)
      obtain ⟨m33, sa, Tm33, Fm33, g34, h35, h36, h37, rfl⟩ := k32
      refine Or.inl ⟨_, _, _, _, rfl, ?_⟩
      refine K_nb (st' := [.int (i32 sa)]) rfl ?_
      obtain ⟨g34a, g34b⟩ := g34
      have g38 : 0 ≤ m33.1 221 ∧ m33.1 221 ≤ 16 := Tm33.1 221
      replace h35 : sa = (m21.1 221) := h35
      rewrite [(show (m21.1 221) = (m.1 221) from (fr1 Fm21 221 rfl))] at h35
      replace h36 : (m33.1 221) = (m21.1 221) + 1 := h36
      rewrite [(show (m21.1 221) = (m.1 221) from (fr1 Fm21 221 rfl))] at h36
      replace h37 : (m33.2 36) = upI (m21.2 36) (m21.1 221) (-1) := h37
      rewrite [(show (m21.2 36) = (m.2 36) from (fr2 Fm21 36 rfl)), (show (m21.1 221) = (m.1 221) from (fr1 Fm21 221 rfl))] at h37
      have hSa := h37
      have pKP : KPp (m21.1 203) (m21.2 8) (m21.2 9) (m.1 214) (m.1 215) (m.1 216) (m.1 217) (m33.1 221) (m.1 223) (m.1 219) := KPp_mk pKP hMk (by omega) (by omega) (by omega) (by omega) (by omega) (by omega) (by omega) (by omega)
      have hSS : SSp (m.1 222) (m33.2 36) (m33.1 221) := SS_add hSS (by omega) hSa (by omega)
      refine T_ret rfl (fun _ => rfl) ?_
      exact Or.inl ⟨(mO m33 [] []), sa, Tm33, (fr_m (fr_s Fm33 (fr_m (fr_s Fm21 (fr_m fr_0 rfl rfl) rfl rfl) rfl rfl) rfl rfl) rfl rfl), ⟨by omega, by omega⟩, (show KPp (m33.1 203) (m33.2 8) (m33.2 9) (m.1 214) (m.1 215) (m.1 216) (m.1 217) (m33.1 221) (m.1 223) (m.1 219) by rewrite [(show (m33.1 203) = (m21.1 203) from (fr1 Fm33 203 rfl)), (show (m33.2 8) = (m21.2 8) from (fr2 Fm33 8 rfl)), (show (m33.2 9) = (m21.2 9) from (fr2 Fm33 9 rfl))]; first | (exact pKP) | (exfalso; omega)), (show SSp (m.1 222) (m33.2 36) (m33.1 221) by first | (exact hSS) | (exfalso; omega)), (show (m.1 221) ≤ (m33.1 221) by omega), rfl⟩
    · skip
      refine T_ld 25 (.ref 178) rfl (fun _ => rfl) ?_
      refine K_gf 28 (.ref 6) rfl rfl kd_178 rfl rfl rfl ?_
      refine T_ld 31 (.int (i32 304)) rfl (fun _ => rfl) ?_
      refine T_callx 34 83 [.ref 6, .int (i32 304)] [] rfl (fun _ => rfl) rfl rfl (c_tx_known w (mO m [] []) c N D (by omega) hT 304 ⟨by decide, by decide⟩) (fun rr39 k40 => ?_)
      rcases k40 with ⟨m41, kn, Tm41, Fm41, g42, h43, h44, h45, rfl⟩ | ⟨xx48, m46, hx47, Tm46, Fm46, rfl⟩
      rotate_left
      · skip
        refine Or.inr ⟨_, _, _, _, rfl, ?_⟩
        exact Or.inr ⟨xx48, (mO m46 [] []), (hx47), Tm46, (fr_m (fr_s Fm46 (fr_m fr_0 rfl rfl) rfl rfl) rfl rfl), rfl⟩
      refine Or.inl ⟨_, _, _, _, rfl, ?_⟩
      refine K_nb (st' := [.int (i32 kn)]) rfl ?_
      obtain ⟨g42a, g42b⟩ := g42
      have g49 : (-1) ≤ m41.1 206 ∧ m41.1 206 ≤ 65535 := Tm41.1 206
      have g50 : 0 ≤ m41.1 207 ∧ m41.1 207 ≤ 4001 := Tm41.1 207
      replace h43 : KNo (m.1 203) (m.2 8) (m.2 9) (304 : Int) kn := h43
      have hKn := h43
      replace h44 : (m.1 213) = 0 := h44
      replace h45 : (m.1 206) = 256 := h45
      refine T_ret rfl (fun _ => rfl) ?_
      exact Or.inl ⟨(mO m41 [] []), kn, Tm41, (fr_m (fr_s Fm41 (fr_m fr_0 rfl rfl) rfl rfl) rfl rfl), ⟨by omega, by omega⟩, (show KPp (m41.1 203) (m41.2 8) (m41.2 9) (m.1 214) (m.1 215) (m.1 216) (m.1 217) (m41.1 221) (m.1 223) (m.1 219) by rewrite [(show (m41.1 203) = (m.1 203) from (fr1 Fm41 203 rfl)), (show (m41.2 8) = (m.2 8) from (fr2 Fm41 8 rfl)), (show (m41.2 9) = (m.2 9) from (fr2 Fm41 9 rfl)), (show (m41.1 221) = (m.1 221) from (fr1 Fm41 221 rfl))]; first | (exact pKP) | (exfalso; omega)), (show SSp (m.1 222) (m41.2 36) (m41.1 221) by rewrite [(show (m41.2 36) = (m.2 36) from (fr2 Fm41 36 rfl)), (show (m41.1 221) = (m.1 221) from (fr1 Fm41 221 rfl))]; first | (exact hSS) | (exfalso; omega)), (show (m.1 221) ≤ (m41.1 221) by rewrite [(show (m41.1 221) = (m.1 221) from (fr1 Fm41 221 rfl))]; omega), rfl⟩
def fF_rd_selectCase : List Nat := [203, 205, 206, 207, 208, 209, 210, 211, 212, 221]
def fA_rd_selectCase : List Nat := [6, 7, 8, 9, 26, 29, 30, 31, 32, 33, 35, 36]
def Q_rd_selectCase (m : mR) (c : Nat → Option am_C) (N : Nat) (s : Int) (i : Int) (u : Int) : ag_Re af_T → Prop := fun R => (∃ (M : mR), KTy M ∧ fr fF_rd_selectCase fA_rd_selectCase m M ∧ (KPp (M.1 203) (M.2 8) (M.2 9) (m.1 214) (m.1 215) (m.1 216) (m.1 217) (M.1 221) (m.1 223) (m.1 219)) ∧ (SSp (m.1 222) (M.2 36) (M.1 221)) ∧ ((m.1 221) ≤ (M.1 221)) ∧ R = (.inl (none), (khp M c, N), 0, 0)) ∨ (∃ (x : Nat) (M : mR), (x = 0) ∧ (KTy M) ∧ (fr fF_rd_selectCase fA_rd_selectCase m M) ∧ R = (.inr x, (khp M c, N), 1, 6))
set_option maxHeartbeats 3000000 in
theorem c_rd_selectCase (w : wX) (m : mR) (c : Nat → Option am_C) (N D : Nat) (hD : 10 ≤ D) (hT : KTy m) (s : Int) (i : Int) (u : Int) (qs : R32 s) (qi : R32 i) (qu : R32 u) (pKP : KPp (m.1 203) (m.2 8) (m.2 9) (m.1 214) (m.1 215) (m.1 216) (m.1 217) (m.1 221) (m.1 223) (m.1 219)) (hSS : SSp (m.1 222) (m.2 36) (m.1 221)) (p2 : 0 ≤ s ∧ s ≤ 15) (p3 : 0 ≤ i ∧ i ≤ 8) : TC w D 114 [.ref 178, .int (i32 s), .int (i32 i), .int (i32 u)] (khp m c, N) (Q_rd_selectCase m c N s i u) := by
  obtain ⟨D, rfl⟩ : ∃ k, D = k + 1 := ⟨D - 1, by omega⟩
  obtain ⟨qsa, qsb⟩ := id qs
  obtain ⟨qia, qib⟩ := id qi
  obtain ⟨qua, qub⟩ := id qu
  have f203 : 0 ≤ m.1 203 ∧ m.1 203 ≤ 90 := hT.1 203
  have f206 : (-1) ≤ m.1 206 ∧ m.1 206 ≤ 65535 := hT.1 206
  have f207 : 0 ≤ m.1 207 ∧ m.1 207 ≤ 4001 := hT.1 207
  have f221 : 0 ≤ m.1 221 ∧ m.1 221 ≤ 16 := hT.1 221
  have f213 : 0 ≤ m.1 213 ∧ m.1 213 ≤ 1 := hT.1 213
  have f214 : 0 ≤ m.1 214 ∧ m.1 214 ≤ 12 := hT.1 214
  have f215 : 0 ≤ m.1 215 ∧ m.1 215 ≤ 12 := hT.1 215
  have f216 : 0 ≤ m.1 216 ∧ m.1 216 ≤ 16 := hT.1 216
  have f217 : 0 ≤ m.1 217 ∧ m.1 217 ≤ 8 := hT.1 217
  have f219 : 0 ≤ m.1 219 ∧ m.1 219 ≤ 8 := hT.1 219
  have f222 : 0 ≤ m.1 222 ∧ m.1 222 ≤ 16 := hT.1 222
  have f223 : 0 ≤ m.1 223 ∧ m.1 223 ≤ 16 := hT.1 223
  refine Tc_of rfl ?_
  rw [show (khp m c, N) = (khp (mO m [] []) c, N) from by rw [mO_nil m]]
  show TT w D pm_114 (0, [(0, .ref 178), (1, .int (i32 s)), (2, .int (i32 i)), (3, .int (i32 u))], [], (khp (mO m [] []) c, N), 0, 0) (Q_rd_selectCase m c N s i u)
  refine T_ld 1 (.int (i32 i)) rfl (fun _ => rfl) ?_
  refine T_ld 3 (.int (i32 8)) rfl (fun _ => rfl) ?_
  refine T_icmp 21 6 rfl rfl rfl (r32 (by omega) (by omega)) ⟨by decide, by decide⟩ (fun (h1 : i < 8) => ?_) (fun (h1 : ¬ (i < 8)) => ?_)
  · skip
    refine T_ld 22 (.int (i32 s)) rfl (fun _ => rfl) ?_
    refine T_ld 24 (.int (i32 8)) rfl (fun _ => rfl) ?_
    refine T_imul 25 rfl rfl ?_
    refine T_ld 26 (.int (i32 i)) rfl (fun _ => rfl) ?_
    refine T_iadd 27 rfl rfl ?_
    refine T_sto 29 [(4, .int (i32 ((s * 8) + i))), (0, .ref 178), (1, .int (i32 s)), (2, .int (i32 i)), (3, .int (i32 u))] rfl (fun _ => rfl) ?_
    refine T_ld 30 (.ref 178) rfl (fun _ => rfl) ?_
    refine K_gf 33 (.ref 31) rfl rfl kd_178 rfl rfl rfl ?_
    refine K_gf 36 (.ref 37) rfl rfl kd_31 rfl rfl rfl ?_
    refine T_ld 38 (.int (i32 ((s * 8) + i))) rfl (fun _ => rfl) ?_
    refine T_ld 39 (.ref 178) rfl (fun _ => rfl) ?_
    refine T_ld 40 (.int (i32 u)) rfl (fun _ => rfl) ?_
    refine T_callx 43 115 [.ref 178, .int (i32 u)] [.int (i32 ((s * 8) + i)), .ref 37] rfl (fun _ => rfl) rfl rfl (c_rd_fittingNumber w (mO m [] []) c N D (by omega) hT u (r32 (by omega) (by omega))) (fun rr2 k3 => ?_)
    rcases k3 with ⟨m4, x5, Tm4, Fm4, g6, rfl⟩ | ⟨xx9, m7, hx8, Tm7, Fm7, rfl⟩
    rotate_left
    · skip
      refine Or.inr ⟨_, _, _, _, rfl, ?_⟩
      exact Or.inr ⟨xx9, (mO m7 [] []), (hx8), Tm7, (fr_m (fr_s Fm7 (fr_m fr_0 rfl rfl) rfl rfl) rfl rfl), rfl⟩
    refine Or.inl ⟨_, _, _, _, rfl, ?_⟩
    refine K_nb (st' := [.long (i64 x5), .int (i32 ((s * 8) + i)), .ref 37]) rfl ?_
    obtain ⟨g6a, g6b⟩ := g6
    have g10 : (-1) ≤ m4.1 206 ∧ m4.1 206 ≤ 65535 := Tm4.1 206
    have g11 : 0 ≤ m4.1 207 ∧ m4.1 207 ≤ 4001 := Tm4.1 207
    have G12 : ∀ j, (-9223372036854775808) ≤ (upI (m.2 31) ((s * 8) + i) x5) j ∧ (upI (m.2 31) ((s * 8) + i) x5) j ≤ 9223372036854775807 := upI_rg (hT.2.1 31) ⟨by omega, by omega⟩
    refine K_last (a' := [(31, upI (m.2 31) ((s * 8) + i) x5)]) 44 31 (m.2 31) rfl rfl rfl (by omega) (show ((s * 8) + i) < (128 : Int) by omega) (show (m4.2 31) = (m.2 31) from (fr2 Fm4 31 rfl)) rfl ?_
    refine T_ld 45 (.ref 178) rfl (fun _ => rfl) ?_
    refine K_gf 48 (.ref 31) rfl rfl kd_178 rfl rfl rfl ?_
    refine K_gf 51 (.ref 38) rfl rfl kd_31 rfl rfl rfl ?_
    refine T_ld 53 (.int (i32 ((s * 8) + i))) rfl (fun _ => rfl) ?_
    refine T_ld 54 (.int (i32 u)) rfl (fun _ => rfl) ?_
    refine T_callx 57 116 [.int (i32 u)] [.int (i32 ((s * 8) + i)), .ref 38] rfl (fun _ => rfl) rfl rfl (c_pw_ones w (mO m4 [] [(31, upI (m.2 31) ((s * 8) + i) x5)]) c N D (by omega) (KTy_mO Tm4 rfl rfl trivial ⟨G12, trivial⟩) u (r32 (by omega) (by omega))) (fun rr13 k14 => ?_)
    obtain ⟨x15, g16, rfl⟩ := k14
    refine Or.inl ⟨_, _, _, _, rfl, ?_⟩
    refine T_ns (st' := [.long (i64 x15), .int (i32 ((s * 8) + i)), .ref 38]) rfl ?_
    obtain ⟨g16a, g16b⟩ := g16
    have G17 : ∀ j, (-9223372036854775808) ≤ (upI (m.2 32) ((s * 8) + i) x15) j ∧ (upI (m.2 32) ((s * 8) + i) x15) j ≤ 9223372036854775807 := upI_rg (hT.2.1 32) ⟨by omega, by omega⟩
    refine K_last (a' := [(31, upI (m.2 31) ((s * 8) + i) x5), (32, upI (m.2 32) ((s * 8) + i) x15)]) 58 32 (m.2 32) rfl rfl rfl (by omega) (show ((s * 8) + i) < (128 : Int) by omega) (show (m4.2 32) = (m.2 32) from (fr2 Fm4 32 rfl)) rfl ?_
    refine T_ld 59 (.ref 178) rfl (fun _ => rfl) ?_
    refine K_gf 62 (.ref 6) rfl rfl kd_178 rfl rfl rfl ?_
    refine K_gf 65 (.int (i32 (m4.1 206))) rfl rfl kd_6 rfl rfl rfl ?_
    refine T_ld 67 (.int (i32 38)) rfl (fun _ => rfl) ?_
    refine T_icmp 92 70 rfl rfl rfl (r32 (by omega) (by omega)) ⟨by decide, by decide⟩ (fun (h18 : (m4.1 206) ≠ 38) => ?_) (fun (h18 : ¬ ((m4.1 206) ≠ 38)) => ?_)
    · skip
      refine T_ld 93 (.ref 178) rfl (fun _ => rfl) ?_
      refine K_gf 96 (.ref 6) rfl rfl kd_178 rfl rfl rfl ?_
      refine T_ld 98 (.int (i32 58)) rfl (fun _ => rfl) ?_
      refine T_callx 101 78 [.ref 6, .int (i32 58)] [] rfl (fun _ => rfl) rfl rfl (c_tx_expect w (mO m4 [] [(31, upI (m.2 31) ((s * 8) + i) x5), (32, upI (m.2 32) ((s * 8) + i) x15)]) c N D (by omega) (KTy_mO Tm4 rfl rfl trivial ⟨G12, G17, trivial⟩) 58 ⟨by decide, by decide⟩) (fun rr19 k20 => ?_)
      rcases k20 with ⟨m21, Tm21, Fm21, h22, h23, rfl⟩ | ⟨xx26, m24, hx25, Tm24, Fm24, rfl⟩
      rotate_left
      · skip
        refine Or.inr ⟨_, _, _, _, rfl, ?_⟩
        exact Or.inr ⟨xx26, (mO m24 [] []), (hx25), Tm24, (fr_m (fr_s Fm24 (fr_m (fr_s Fm4 (fr_m fr_0 rfl rfl) rfl rfl) rfl rfl) rfl rfl) rfl rfl), rfl⟩
      refine Or.inl ⟨_, _, _, _, rfl, ?_⟩
      refine K_nb (st' := []) rfl ?_
      have g27 : (-1) ≤ m21.1 206 ∧ m21.1 206 ≤ 65535 := Tm21.1 206
      have g28 : 0 ≤ m21.1 207 ∧ m21.1 207 ≤ 4001 := Tm21.1 207
      replace h22 : (m4.1 206) = (58 : Int) := h22
      replace h23 : (m4.1 213) = 0 := h23
      rewrite [(show (m4.1 213) = (m.1 213) from (fr1 Fm4 213 rfl))] at h23
      refine T_ld 102 (.ref 178) rfl (fun _ => rfl) ?_
      refine K_gf 105 (.ref 31) rfl rfl kd_178 rfl rfl rfl ?_
      refine K_gf 108 (.ref 39) rfl rfl kd_31 rfl rfl rfl ?_
      refine T_ld 110 (.int (i32 ((s * 8) + i))) rfl (fun _ => rfl) ?_
      refine T_ld 111 (.ref 178) rfl (fun _ => rfl) ?_
      refine T_callx 114 117 [.ref 178] [.int (i32 ((s * 8) + i)), .ref 39] rfl (fun _ => rfl) rfl rfl (c_rd_goal w (mO m21 [] []) c N D (by omega) Tm21 (show KPp (m21.1 203) (m21.2 8) (m21.2 9) (m21.1 214) (m21.1 215) (m21.1 216) (m21.1 217) (m21.1 221) (m21.1 223) (m21.1 219) by rewrite [(show (m21.1 203) = (m.1 203) from ((fr1 Fm21 203 rfl).trans (fr1 Fm4 203 rfl))), (show (m21.2 8) = (m.2 8) from ((fr2 Fm21 8 rfl).trans (fr2 Fm4 8 rfl))), (show (m21.2 9) = (m.2 9) from ((fr2 Fm21 9 rfl).trans (fr2 Fm4 9 rfl))), (show (m21.1 214) = (m.1 214) from ((fr1 Fm21 214 rfl).trans (fr1 Fm4 214 rfl))), (show (m21.1 215) = (m.1 215) from ((fr1 Fm21 215 rfl).trans (fr1 Fm4 215 rfl))), (show (m21.1 216) = (m.1 216) from ((fr1 Fm21 216 rfl).trans (fr1 Fm4 216 rfl))), (show (m21.1 217) = (m.1 217) from ((fr1 Fm21 217 rfl).trans (fr1 Fm4 217 rfl))), (show (m21.1 221) = (m.1 221) from ((fr1 Fm21 221 rfl).trans (fr1 Fm4 221 rfl))), (show (m21.1 223) = (m.1 223) from ((fr1 Fm21 223 rfl).trans (fr1 Fm4 223 rfl))), (show (m21.1 219) = (m.1 219) from ((fr1 Fm21 219 rfl).trans (fr1 Fm4 219 rfl)))]; exact pKP) (show SSp (m21.1 222) (m21.2 36) (m21.1 221) by rewrite [(show (m21.1 222) = (m.1 222) from ((fr1 Fm21 222 rfl).trans (fr1 Fm4 222 rfl))), (show (m21.2 36) = (m.2 36) from ((fr2 Fm21 36 rfl).trans (fr2 Fm4 36 rfl))), (show (m21.1 221) = (m.1 221) from ((fr1 Fm21 221 rfl).trans (fr1 Fm4 221 rfl)))]; exact hSS)) (fun rr29 k30 => ?_)
      rcases k30 with ⟨m31, go, Tm31, Fm31, g32, h33, h34, h35, rfl⟩ | ⟨xx38, m36, hx37, Tm36, Fm36, rfl⟩
      rotate_left
      · skip
        refine Or.inr ⟨_, _, _, _, rfl, ?_⟩
        exact Or.inr ⟨xx38, (mO m36 [] []), (hx37), Tm36, (fr_m (fr_s Fm36 (fr_m (fr_s Fm21 (fr_m (fr_s Fm4 (fr_m fr_0 rfl rfl) rfl rfl) rfl rfl) rfl rfl) rfl rfl) rfl rfl) rfl rfl), rfl⟩
      refine Or.inl ⟨_, _, _, _, rfl, ?_⟩
      refine K_nb (st' := [.int (i32 go), .int (i32 ((s * 8) + i)), .ref 39]) rfl ?_
      obtain ⟨g32a, g32b⟩ := g32
      have g39 : 0 ≤ m31.1 203 ∧ m31.1 203 ≤ 90 := Tm31.1 203
      have g40 : (-1) ≤ m31.1 206 ∧ m31.1 206 ≤ 65535 := Tm31.1 206
      have g41 : 0 ≤ m31.1 207 ∧ m31.1 207 ≤ 4001 := Tm31.1 207
      have g42 : 0 ≤ m31.1 221 ∧ m31.1 221 ≤ 16 := Tm31.1 221
      replace h33 : KPp (m31.1 203) (m31.2 8) (m31.2 9) (m21.1 214) (m21.1 215) (m21.1 216) (m21.1 217) (m31.1 221) (m21.1 223) (m21.1 219) := h33
      rewrite [(show (m21.1 214) = (m.1 214) from ((fr1 Fm21 214 rfl).trans (fr1 Fm4 214 rfl))), (show (m21.1 215) = (m.1 215) from ((fr1 Fm21 215 rfl).trans (fr1 Fm4 215 rfl))), (show (m21.1 216) = (m.1 216) from ((fr1 Fm21 216 rfl).trans (fr1 Fm4 216 rfl))), (show (m21.1 217) = (m.1 217) from ((fr1 Fm21 217 rfl).trans (fr1 Fm4 217 rfl))), (show (m21.1 223) = (m.1 223) from ((fr1 Fm21 223 rfl).trans (fr1 Fm4 223 rfl))), (show (m21.1 219) = (m.1 219) from ((fr1 Fm21 219 rfl).trans (fr1 Fm4 219 rfl)))] at h33
      have pKP := h33
      replace h34 : SSp (m21.1 222) (m31.2 36) (m31.1 221) := h34
      rewrite [(show (m21.1 222) = (m.1 222) from ((fr1 Fm21 222 rfl).trans (fr1 Fm4 222 rfl)))] at h34
      have hSS := h34
      replace h35 : (m21.1 221) ≤ (m31.1 221) := h35
      rewrite [(show (m21.1 221) = (m.1 221) from ((fr1 Fm21 221 rfl).trans (fr1 Fm4 221 rfl)))] at h35
      have G43 : ∀ j, 0 ≤ (upI (m.2 33) ((s * 8) + i) go) j ∧ (upI (m.2 33) ((s * 8) + i) go) j ≤ 17 := upI_rg (hT.2.1 33) ⟨by omega, by omega⟩
      refine K_iast (a' := [(33, upI (m.2 33) ((s * 8) + i) go)]) 115 33 (m.2 33) rfl rfl rfl (by omega) (show ((s * 8) + i) < (128 : Int) by omega) (show (m31.2 33) = (m.2 33) from ((fr2 Fm31 33 rfl).trans ((fr2 Fm21 33 rfl).trans (fr2 Fm4 33 rfl)))) rfl ?_
      refine T_ld 116 (.ref 178) rfl (fun _ => rfl) ?_
      refine K_gf 119 (.ref 31) rfl rfl kd_178 rfl rfl rfl ?_
      refine K_gf 122 (.ref 36) rfl rfl kd_31 rfl rfl rfl ?_
      refine T_ld 123 (.int (i32 s)) rfl (fun _ => rfl) ?_
      refine T_ld 124 (.int (i32 i)) rfl (fun _ => rfl) ?_
      refine T_ld 125 (.int (i32 1)) rfl (fun _ => rfl) ?_
      refine T_iadd 126 rfl rfl ?_
      have G44 : ∀ j, 0 ≤ (upI (m31.2 30) s (i + 1)) j ∧ (upI (m31.2 30) s (i + 1)) j ≤ 8 := upI_rg (Tm31.2.1 30) ⟨by omega, by omega⟩
      refine K_iast (a' := [(30, upI (m31.2 30) s (i + 1)), (33, upI (m.2 33) ((s * 8) + i) go)]) 127 30 (m31.2 30) rfl rfl rfl (by omega) (show s < (16 : Int) by omega) rfl rfl ?_
      refine T_ld 128 (.ref 178) rfl (fun _ => rfl) ?_
      refine K_gf 131 (.ref 6) rfl rfl kd_178 rfl rfl rfl ?_
      refine T_ld 133 (.int (i32 59)) rfl (fun _ => rfl) ?_
      refine T_callx 136 78 [.ref 6, .int (i32 59)] [] rfl (fun _ => rfl) rfl rfl (c_tx_expect w (mO m31 [] [(30, upI (m31.2 30) s (i + 1)), (33, upI (m.2 33) ((s * 8) + i) go)]) c N D (by omega) (KTy_mO Tm31 rfl rfl trivial ⟨G44, G43, trivial⟩) 59 ⟨by decide, by decide⟩) (fun rr45 k46 => ?_)
      rcases k46 with ⟨m47, Tm47, Fm47, h48, h49, rfl⟩ | ⟨xx52, m50, hx51, Tm50, Fm50, rfl⟩
      rotate_left
      · skip
        refine Or.inr ⟨_, _, _, _, rfl, ?_⟩
        exact Or.inr ⟨xx52, (mO m50 [] []), (hx51), Tm50, (fr_m (fr_s Fm50 (fr_m (fr_s Fm31 (fr_m (fr_s Fm21 (fr_m (fr_s Fm4 (fr_m fr_0 rfl rfl) rfl rfl) rfl rfl) rfl rfl) rfl rfl) rfl rfl) rfl rfl) rfl rfl) rfl rfl), rfl⟩
      refine Or.inl ⟨_, _, _, _, rfl, ?_⟩
      refine K_nb (st' := []) rfl ?_
      have g53 : (-1) ≤ m47.1 206 ∧ m47.1 206 ≤ 65535 := Tm47.1 206
      have g54 : 0 ≤ m47.1 207 ∧ m47.1 207 ≤ 4001 := Tm47.1 207
      replace h48 : (m31.1 206) = (59 : Int) := h48
      replace h49 : (m31.1 213) = 0 := h49
      rewrite [(show (m31.1 213) = (m.1 213) from ((fr1 Fm31 213 rfl).trans ((fr1 Fm21 213 rfl).trans (fr1 Fm4 213 rfl))))] at h49
      refine T_ret rfl (fun _ => rfl) ?_
      exact Or.inl ⟨(mO m47 [] []), Tm47, (fr_m (fr_s Fm47 (fr_m (fr_s Fm31 (fr_m (fr_s Fm21 (fr_m (fr_s Fm4 (fr_m fr_0 rfl rfl) rfl rfl) rfl rfl) rfl rfl) rfl rfl) rfl rfl) rfl rfl) rfl rfl) rfl rfl), (show KPp (m47.1 203) (m47.2 8) (m47.2 9) (m.1 214) (m.1 215) (m.1 216) (m.1 217) (m47.1 221) (m.1 223) (m.1 219) by rewrite [(show (m47.1 203) = (m31.1 203) from (fr1 Fm47 203 rfl)), (show (m47.2 8) = (m31.2 8) from (fr2 Fm47 8 rfl)), (show (m47.2 9) = (m31.2 9) from (fr2 Fm47 9 rfl)), (show (m47.1 221) = (m31.1 221) from (fr1 Fm47 221 rfl))]; first | (exact pKP) | (exfalso; omega)), (show SSp (m.1 222) (m47.2 36) (m47.1 221) by rewrite [(show (m47.2 36) = (m31.2 36) from (fr2 Fm47 36 rfl)), (show (m47.1 221) = (m31.1 221) from (fr1 Fm47 221 rfl))]; first | (exact hSS) | (exfalso; omega)), (show (m.1 221) ≤ (m47.1 221) by rewrite [(show (m47.1 221) = (m31.1 221) from (fr1 Fm47 221 rfl))]; omega), rfl⟩
    · skip
      refine T_ld 71 (.ref 178) rfl (fun _ => rfl) ?_
      refine K_gf 74 (.ref 6) rfl rfl kd_178 rfl rfl rfl ?_
      refine T_callx 77 50 [.ref 6] [] rfl (fun _ => rfl) rfl rfl (c_tx_advance w (mO m4 [] [(31, upI (m.2 31) ((s * 8) + i) x5), (32, upI (m.2 32) ((s * 8) + i) x15)]) c N D (by omega) (KTy_mO Tm4 rfl rfl trivial ⟨G12, G17, trivial⟩) ) (fun rr55 k56 => ?_)
      rcases k56 with ⟨m57, Tm57, Fm57, h58, rfl⟩ | ⟨xx61, m59, hx60, Tm59, Fm59, rfl⟩
      rotate_left
      · skip
        refine Or.inr ⟨_, _, _, _, rfl, ?_⟩
        exact Or.inr ⟨xx61, (mO m59 [] []), (hx60), Tm59, (fr_m (fr_s Fm59 (fr_m (fr_s Fm4 (fr_m fr_0 rfl rfl) rfl rfl) rfl rfl) rfl rfl) rfl rfl), rfl⟩
      refine Or.inl ⟨_, _, _, _, rfl, ?_⟩
      refine K_nb (st' := []) rfl ?_
      have g62 : (-1) ≤ m57.1 206 ∧ m57.1 206 ≤ 65535 := Tm57.1 206
      have g63 : 0 ≤ m57.1 207 ∧ m57.1 207 ≤ 4001 := Tm57.1 207
      replace h58 : (m4.1 213) = 0 := h58
      rewrite [(show (m4.1 213) = (m.1 213) from (fr1 Fm4 213 rfl))] at h58
      refine T_ld 78 (.ref 178) rfl (fun _ => rfl) ?_
      refine K_gf 81 (.ref 31) rfl rfl kd_178 rfl rfl rfl ?_
      refine K_gf 84 (.ref 38) rfl rfl kd_31 rfl rfl rfl ?_
      refine T_ld 86 (.int (i32 ((s * 8) + i))) rfl (fun _ => rfl) ?_
      refine T_ld 87 (.ref 178) rfl (fun _ => rfl) ?_
      refine T_ld 88 (.int (i32 u)) rfl (fun _ => rfl) ?_
      refine T_callx 91 115 [.ref 178, .int (i32 u)] [.int (i32 ((s * 8) + i)), .ref 38] rfl (fun _ => rfl) rfl rfl (c_rd_fittingNumber w (mO m57 [] []) c N D (by omega) Tm57 u (r32 (by omega) (by omega))) (fun rr64 k65 => ?_)
      rcases k65 with ⟨m66, x67, Tm66, Fm66, g68, rfl⟩ | ⟨xx71, m69, hx70, Tm69, Fm69, rfl⟩
      rotate_left
      · skip
        refine Or.inr ⟨_, _, _, _, rfl, ?_⟩
        exact Or.inr ⟨xx71, (mO m69 [] []), (hx70), Tm69, (fr_m (fr_s Fm69 (fr_m (fr_s Fm57 (fr_m (fr_s Fm4 (fr_m fr_0 rfl rfl) rfl rfl) rfl rfl) rfl rfl) rfl rfl) rfl rfl) rfl rfl), rfl⟩
      refine Or.inl ⟨_, _, _, _, rfl, ?_⟩
      refine K_nb (st' := [.long (i64 x67), .int (i32 ((s * 8) + i)), .ref 38]) rfl ?_
      obtain ⟨g68a, g68b⟩ := g68
      have g72 : (-1) ≤ m66.1 206 ∧ m66.1 206 ≤ 65535 := Tm66.1 206
      have g73 : 0 ≤ m66.1 207 ∧ m66.1 207 ≤ 4001 := Tm66.1 207
      have G74 : ∀ j, (-9223372036854775808) ≤ (upI (upI (m.2 32) ((s * 8) + i) x15) ((s * 8) + i) x67) j ∧ (upI (upI (m.2 32) ((s * 8) + i) x15) ((s * 8) + i) x67) j ≤ 9223372036854775807 := upI_rg G17 ⟨by omega, by omega⟩
      refine K_last (a' := [(32, upI (upI (m.2 32) ((s * 8) + i) x15) ((s * 8) + i) x67)]) 92 32 (upI (m.2 32) ((s * 8) + i) x15) rfl rfl rfl (by omega) (show ((s * 8) + i) < (128 : Int) by omega) (show (m66.2 32) = (upI (m.2 32) ((s * 8) + i) x15) from ((fr2 Fm66 32 rfl).trans (fr2 Fm57 32 rfl))) rfl ?_
      refine T_ld 93 (.ref 178) rfl (fun _ => rfl) ?_
      refine K_gf 96 (.ref 6) rfl rfl kd_178 rfl rfl rfl ?_
      refine T_ld 98 (.int (i32 58)) rfl (fun _ => rfl) ?_
      refine T_callx 101 78 [.ref 6, .int (i32 58)] [] rfl (fun _ => rfl) rfl rfl (c_tx_expect w (mO m66 [] [(32, upI (upI (m.2 32) ((s * 8) + i) x15) ((s * 8) + i) x67)]) c N D (by omega) (KTy_mO Tm66 rfl rfl trivial ⟨G74, trivial⟩) 58 ⟨by decide, by decide⟩) (fun rr75 k76 => ?_)
      rcases k76 with ⟨m77, Tm77, Fm77, h78, h79, rfl⟩ | ⟨xx82, m80, hx81, Tm80, Fm80, rfl⟩
      rotate_left
      · skip
        refine Or.inr ⟨_, _, _, _, rfl, ?_⟩
        exact Or.inr ⟨xx82, (mO m80 [] []), (hx81), Tm80, (fr_m (fr_s Fm80 (fr_m (fr_s Fm66 (fr_m (fr_s Fm57 (fr_m (fr_s Fm4 (fr_m fr_0 rfl rfl) rfl rfl) rfl rfl) rfl rfl) rfl rfl) rfl rfl) rfl rfl) rfl rfl) rfl rfl), rfl⟩
      refine Or.inl ⟨_, _, _, _, rfl, ?_⟩
      refine K_nb (st' := []) rfl ?_
      have g83 : (-1) ≤ m77.1 206 ∧ m77.1 206 ≤ 65535 := Tm77.1 206
      have g84 : 0 ≤ m77.1 207 ∧ m77.1 207 ≤ 4001 := Tm77.1 207
      replace h78 : (m66.1 206) = (58 : Int) := h78
      replace h79 : (m66.1 213) = 0 := h79
      rewrite [(show (m66.1 213) = (m.1 213) from ((fr1 Fm66 213 rfl).trans ((fr1 Fm57 213 rfl).trans (fr1 Fm4 213 rfl))))] at h79
      refine T_ld 102 (.ref 178) rfl (fun _ => rfl) ?_
      refine K_gf 105 (.ref 31) rfl rfl kd_178 rfl rfl rfl ?_
      refine K_gf 108 (.ref 39) rfl rfl kd_31 rfl rfl rfl ?_
      refine T_ld 110 (.int (i32 ((s * 8) + i))) rfl (fun _ => rfl) ?_
      refine T_ld 111 (.ref 178) rfl (fun _ => rfl) ?_
      refine T_callx 114 117 [.ref 178] [.int (i32 ((s * 8) + i)), .ref 39] rfl (fun _ => rfl) rfl rfl (c_rd_goal w (mO m77 [] []) c N D (by omega) Tm77 (show KPp (m77.1 203) (m77.2 8) (m77.2 9) (m77.1 214) (m77.1 215) (m77.1 216) (m77.1 217) (m77.1 221) (m77.1 223) (m77.1 219) by rewrite [(show (m77.1 203) = (m.1 203) from ((fr1 Fm77 203 rfl).trans ((fr1 Fm66 203 rfl).trans ((fr1 Fm57 203 rfl).trans (fr1 Fm4 203 rfl))))), (show (m77.2 8) = (m.2 8) from ((fr2 Fm77 8 rfl).trans ((fr2 Fm66 8 rfl).trans ((fr2 Fm57 8 rfl).trans (fr2 Fm4 8 rfl))))), (show (m77.2 9) = (m.2 9) from ((fr2 Fm77 9 rfl).trans ((fr2 Fm66 9 rfl).trans ((fr2 Fm57 9 rfl).trans (fr2 Fm4 9 rfl))))), (show (m77.1 214) = (m.1 214) from ((fr1 Fm77 214 rfl).trans ((fr1 Fm66 214 rfl).trans ((fr1 Fm57 214 rfl).trans (fr1 Fm4 214 rfl))))), (show (m77.1 215) = (m.1 215) from ((fr1 Fm77 215 rfl).trans ((fr1 Fm66 215 rfl).trans ((fr1 Fm57 215 rfl).trans (fr1 Fm4 215 rfl))))), (show (m77.1 216) = (m.1 216) from ((fr1 Fm77 216 rfl).trans ((fr1 Fm66 216 rfl).trans ((fr1 Fm57 216 rfl).trans (fr1 Fm4 216 rfl))))), (show (m77.1 217) = (m.1 217) from ((fr1 Fm77 217 rfl).trans ((fr1 Fm66 217 rfl).trans ((fr1 Fm57 217 rfl).trans (fr1 Fm4 217 rfl))))), (show (m77.1 221) = (m.1 221) from ((fr1 Fm77 221 rfl).trans ((fr1 Fm66 221 rfl).trans ((fr1 Fm57 221 rfl).trans (fr1 Fm4 221 rfl))))), (show (m77.1 223) = (m.1 223) from ((fr1 Fm77 223 rfl).trans ((fr1 Fm66 223 rfl).trans ((fr1 Fm57 223 rfl).trans (fr1 Fm4 223 rfl))))), (show (m77.1 219) = (m.1 219) from ((fr1 Fm77 219 rfl).trans ((fr1 Fm66 219 rfl).trans ((fr1 Fm57 219 rfl).trans (fr1 Fm4 219 rfl)))))]; exact pKP) (show SSp (m77.1 222) (m77.2 36) (m77.1 221) by rewrite [(show (m77.1 222) = (m.1 222) from ((fr1 Fm77 222 rfl).trans ((fr1 Fm66 222 rfl).trans ((fr1 Fm57 222 rfl).trans (fr1 Fm4 222 rfl))))), (show (m77.2 36) = (m.2 36) from ((fr2 Fm77 36 rfl).trans ((fr2 Fm66 36 rfl).trans ((fr2 Fm57 36 rfl).trans (fr2 Fm4 36 rfl))))), (show (m77.1 221) = (m.1 221) from ((fr1 Fm77 221 rfl).trans ((fr1 Fm66 221 rfl).trans ((fr1 Fm57 221 rfl).trans (fr1 Fm4 221 rfl)))))]; exact hSS)) (fun rr85 k86 => ?_)
      rcases k86 with ⟨m87, go, Tm87, Fm87, g88, h89, h90, h91, rfl⟩ | ⟨xx94, m92, hx93, Tm92, Fm92, rfl⟩
      rotate_left
      · skip
        refine Or.inr ⟨_, _, _, _, rfl, ?_⟩
        exact Or.inr ⟨xx94, (mO m92 [] []), (hx93), Tm92, (fr_m (fr_s Fm92 (fr_m (fr_s Fm77 (fr_m (fr_s Fm66 (fr_m (fr_s Fm57 (fr_m (fr_s Fm4 (fr_m fr_0 rfl rfl) rfl rfl) rfl rfl) rfl rfl) rfl rfl) rfl rfl) rfl rfl) rfl rfl) rfl rfl) rfl rfl) rfl rfl), rfl⟩
      refine Or.inl ⟨_, _, _, _, rfl, ?_⟩
      refine K_nb (st' := [.int (i32 go), .int (i32 ((s * 8) + i)), .ref 39]) rfl ?_
      obtain ⟨g88a, g88b⟩ := g88
      have g95 : 0 ≤ m87.1 203 ∧ m87.1 203 ≤ 90 := Tm87.1 203
      have g96 : (-1) ≤ m87.1 206 ∧ m87.1 206 ≤ 65535 := Tm87.1 206
      have g97 : 0 ≤ m87.1 207 ∧ m87.1 207 ≤ 4001 := Tm87.1 207
      have g98 : 0 ≤ m87.1 221 ∧ m87.1 221 ≤ 16 := Tm87.1 221
      replace h89 : KPp (m87.1 203) (m87.2 8) (m87.2 9) (m77.1 214) (m77.1 215) (m77.1 216) (m77.1 217) (m87.1 221) (m77.1 223) (m77.1 219) := h89
      rewrite [(show (m77.1 214) = (m.1 214) from ((fr1 Fm77 214 rfl).trans ((fr1 Fm66 214 rfl).trans ((fr1 Fm57 214 rfl).trans (fr1 Fm4 214 rfl))))), (show (m77.1 215) = (m.1 215) from ((fr1 Fm77 215 rfl).trans ((fr1 Fm66 215 rfl).trans ((fr1 Fm57 215 rfl).trans (fr1 Fm4 215 rfl))))), (show (m77.1 216) = (m.1 216) from ((fr1 Fm77 216 rfl).trans ((fr1 Fm66 216 rfl).trans ((fr1 Fm57 216 rfl).trans (fr1 Fm4 216 rfl))))), (show (m77.1 217) = (m.1 217) from ((fr1 Fm77 217 rfl).trans ((fr1 Fm66 217 rfl).trans ((fr1 Fm57 217 rfl).trans (fr1 Fm4 217 rfl))))), (show (m77.1 223) = (m.1 223) from ((fr1 Fm77 223 rfl).trans ((fr1 Fm66 223 rfl).trans ((fr1 Fm57 223 rfl).trans (fr1 Fm4 223 rfl))))), (show (m77.1 219) = (m.1 219) from ((fr1 Fm77 219 rfl).trans ((fr1 Fm66 219 rfl).trans ((fr1 Fm57 219 rfl).trans (fr1 Fm4 219 rfl)))))] at h89
      have pKP := h89
      replace h90 : SSp (m77.1 222) (m87.2 36) (m87.1 221) := h90
      rewrite [(show (m77.1 222) = (m.1 222) from ((fr1 Fm77 222 rfl).trans ((fr1 Fm66 222 rfl).trans ((fr1 Fm57 222 rfl).trans (fr1 Fm4 222 rfl)))))] at h90
      have hSS := h90
      replace h91 : (m77.1 221) ≤ (m87.1 221) := h91
      rewrite [(show (m77.1 221) = (m.1 221) from ((fr1 Fm77 221 rfl).trans ((fr1 Fm66 221 rfl).trans ((fr1 Fm57 221 rfl).trans (fr1 Fm4 221 rfl)))))] at h91
      have G99 : ∀ j, 0 ≤ (upI (m.2 33) ((s * 8) + i) go) j ∧ (upI (m.2 33) ((s * 8) + i) go) j ≤ 17 := upI_rg (hT.2.1 33) ⟨by omega, by omega⟩
      refine K_iast (a' := [(33, upI (m.2 33) ((s * 8) + i) go)]) 115 33 (m.2 33) rfl rfl rfl (by omega) (show ((s * 8) + i) < (128 : Int) by omega) (show (m87.2 33) = (m.2 33) from ((fr2 Fm87 33 rfl).trans ((fr2 Fm77 33 rfl).trans ((fr2 Fm66 33 rfl).trans ((fr2 Fm57 33 rfl).trans (fr2 Fm4 33 rfl)))))) rfl ?_
      refine T_ld 116 (.ref 178) rfl (fun _ => rfl) ?_
      refine K_gf 119 (.ref 31) rfl rfl kd_178 rfl rfl rfl ?_
      refine K_gf 122 (.ref 36) rfl rfl kd_31 rfl rfl rfl ?_
      refine T_ld 123 (.int (i32 s)) rfl (fun _ => rfl) ?_
      refine T_ld 124 (.int (i32 i)) rfl (fun _ => rfl) ?_
      refine T_ld 125 (.int (i32 1)) rfl (fun _ => rfl) ?_
      refine T_iadd 126 rfl rfl ?_
      have G100 : ∀ j, 0 ≤ (upI (m87.2 30) s (i + 1)) j ∧ (upI (m87.2 30) s (i + 1)) j ≤ 8 := upI_rg (Tm87.2.1 30) ⟨by omega, by omega⟩
      refine K_iast (a' := [(30, upI (m87.2 30) s (i + 1)), (33, upI (m.2 33) ((s * 8) + i) go)]) 127 30 (m87.2 30) rfl rfl rfl (by omega) (show s < (16 : Int) by omega) rfl rfl ?_
      refine T_ld 128 (.ref 178) rfl (fun _ => rfl) ?_
      refine K_gf 131 (.ref 6) rfl rfl kd_178 rfl rfl rfl ?_
      refine T_ld 133 (.int (i32 59)) rfl (fun _ => rfl) ?_
      refine T_callx 136 78 [.ref 6, .int (i32 59)] [] rfl (fun _ => rfl) rfl rfl (c_tx_expect w (mO m87 [] [(30, upI (m87.2 30) s (i + 1)), (33, upI (m.2 33) ((s * 8) + i) go)]) c N D (by omega) (KTy_mO Tm87 rfl rfl trivial ⟨G100, G99, trivial⟩) 59 ⟨by decide, by decide⟩) (fun rr101 k102 => ?_)
      rcases k102 with ⟨m103, Tm103, Fm103, h104, h105, rfl⟩ | ⟨xx108, m106, hx107, Tm106, Fm106, rfl⟩
      rotate_left
      · skip
        refine Or.inr ⟨_, _, _, _, rfl, ?_⟩
        exact Or.inr ⟨xx108, (mO m106 [] []), (hx107), Tm106, (fr_m (fr_s Fm106 (fr_m (fr_s Fm87 (fr_m (fr_s Fm77 (fr_m (fr_s Fm66 (fr_m (fr_s Fm57 (fr_m (fr_s Fm4 (fr_m fr_0 rfl rfl) rfl rfl) rfl rfl) rfl rfl) rfl rfl) rfl rfl) rfl rfl) rfl rfl) rfl rfl) rfl rfl) rfl rfl) rfl rfl) rfl rfl), rfl⟩
      refine Or.inl ⟨_, _, _, _, rfl, ?_⟩
      refine K_nb (st' := []) rfl ?_
      have g109 : (-1) ≤ m103.1 206 ∧ m103.1 206 ≤ 65535 := Tm103.1 206
      have g110 : 0 ≤ m103.1 207 ∧ m103.1 207 ≤ 4001 := Tm103.1 207
      replace h104 : (m87.1 206) = (59 : Int) := h104
      replace h105 : (m87.1 213) = 0 := h105
      rewrite [(show (m87.1 213) = (m.1 213) from ((fr1 Fm87 213 rfl).trans ((fr1 Fm77 213 rfl).trans ((fr1 Fm66 213 rfl).trans ((fr1 Fm57 213 rfl).trans (fr1 Fm4 213 rfl))))))] at h105
      refine T_ret rfl (fun _ => rfl) ?_
      exact Or.inl ⟨(mO m103 [] []), Tm103, (fr_m (fr_s Fm103 (fr_m (fr_s Fm87 (fr_m (fr_s Fm77 (fr_m (fr_s Fm66 (fr_m (fr_s Fm57 (fr_m (fr_s Fm4 (fr_m fr_0 rfl rfl) rfl rfl) rfl rfl) rfl rfl) rfl rfl) rfl rfl) rfl rfl) rfl rfl) rfl rfl) rfl rfl) rfl rfl) rfl rfl) rfl rfl), (show KPp (m103.1 203) (m103.2 8) (m103.2 9) (m.1 214) (m.1 215) (m.1 216) (m.1 217) (m103.1 221) (m.1 223) (m.1 219) by rewrite [(show (m103.1 203) = (m87.1 203) from (fr1 Fm103 203 rfl)), (show (m103.2 8) = (m87.2 8) from (fr2 Fm103 8 rfl)), (show (m103.2 9) = (m87.2 9) from (fr2 Fm103 9 rfl)), (show (m103.1 221) = (m87.1 221) from (fr1 Fm103 221 rfl))]; first | (exact pKP) | (exfalso; omega)), (show SSp (m.1 222) (m103.2 36) (m103.1 221) by rewrite [(show (m103.2 36) = (m87.2 36) from (fr2 Fm103 36 rfl)), (show (m103.1 221) = (m87.1 221) from (fr1 Fm103 221 rfl))]; first | (exact hSS) | (exfalso; omega)), (show (m.1 221) ≤ (m103.1 221) by rewrite [(show (m103.1 221) = (m87.1 221) from (fr1 Fm103 221 rfl))]; omega), rfl⟩
  · skip
    refine T_ld 7 (.ref 178) rfl (fun _ => rfl) ?_
    refine K_gf 10 (.ref 6) rfl rfl kd_178 rfl rfl rfl ?_
    refine T_ld 11 (.int (i32 4)) rfl (fun _ => rfl) ?_
    refine T_ld 12 (.ref 178) rfl (fun _ => rfl) ?_
    refine K_gf 15 (.ref 6) rfl rfl kd_178 rfl rfl rfl ?_
    refine K_gf 18 (.int (i32 (m.1 207))) rfl rfl kd_6 rfl rfl rfl ?_
    refine T_callx 21 51 [.ref 6, .int (i32 4), .int (i32 (m.1 207))] [] rfl (fun _ => rfl) rfl rfl (c_tx_fail w (mO m [] []) c N D (by omega) hT 4 (m.1 207) ⟨by decide, by decide⟩ (r32 (by omega) (by omega)) (show 1 ≤ (4 : Int) ∧ (4 : Int) ≤ 8 by omega) (show 0 ≤ (m.1 207) ∧ (m.1 207) ≤ 4001 by omega)) (fun rr111 k112 => ?_)
    rcases k112 with ⟨m113, Tm113, Fm113, h114, rfl⟩ | ⟨xx117, m115, hx116, Tm115, Fm115, rfl⟩
    rotate_left
    · skip
      refine Or.inr ⟨_, _, _, _, rfl, ?_⟩
      exact Or.inr ⟨xx117, (mO m115 [] []), (hx116), Tm115, (fr_m (fr_s Fm115 (fr_m fr_0 rfl rfl) rfl rfl) rfl rfl), rfl⟩
    exact h114.elim
def fF_rd_select : List Nat := [203, 205, 206, 207, 208, 209, 210, 211, 212, 213, 220, 221, 228, 229, 230, 231]
def fA_rd_select : List Nat := [6, 7, 8, 9, 18, 19, 20, 21, 22, 23, 24, 26, 28, 29, 30, 31, 32, 33, 34, 35, 36, 68, 69, 70]
def Q_rd_select (m : mR) (c : Nat → Option am_C) (N : Nat) (s : Int) : ag_Re af_T → Prop := fun R => (∃ (M : mR), KTy M ∧ fr fF_rd_select fA_rd_select m M ∧ (KPp (M.1 203) (M.2 8) (M.2 9) (m.1 214) (m.1 215) (m.1 216) (m.1 217) (M.1 221) (m.1 223) (m.1 219)) ∧ (SSp (m.1 222) (M.2 36) (M.1 221)) ∧ (NKp (M.2 18) (M.2 19)) ∧ R = (.inl (none), (khp M c, N), 0, 0)) ∨ (∃ (x : Nat) (M : mR), (x = 0) ∧ (KTy M) ∧ (fr fF_rd_select fA_rd_select m M) ∧ R = (.inr x, (khp M c, N), 1, 6))
set_option maxHeartbeats 3000000 in
theorem c_rd_select (w : wX) (m : mR) (c : Nat → Option am_C) (N D : Nat) (hD : 11 ≤ D) (hT : KTy m) (s : Int) (qs : R32 s) (pKP : KPp (m.1 203) (m.2 8) (m.2 9) (m.1 214) (m.1 215) (m.1 216) (m.1 217) (m.1 221) (m.1 223) (m.1 219)) (hSS : SSp (m.1 222) (m.2 36) (m.1 221)) (hNK : NKp (m.2 18) (m.2 19)) (p3 : 0 ≤ s ∧ s ≤ 15) : TC w D 91 [.ref 178, .int (i32 s)] (khp m c, N) (Q_rd_select m c N s) := by
  obtain ⟨D, rfl⟩ : ∃ k, D = k + 1 := ⟨D - 1, by omega⟩
  obtain ⟨qsa, qsb⟩ := id qs
  have f203 : 0 ≤ m.1 203 ∧ m.1 203 ≤ 90 := hT.1 203
  have f206 : (-1) ≤ m.1 206 ∧ m.1 206 ≤ 65535 := hT.1 206
  have f213 : 0 ≤ m.1 213 ∧ m.1 213 ≤ 1 := hT.1 213
  have f220 : 0 ≤ m.1 220 ∧ m.1 220 ≤ 1090 := hT.1 220
  have f221 : 0 ≤ m.1 221 ∧ m.1 221 ≤ 16 := hT.1 221
  have f214 : 0 ≤ m.1 214 ∧ m.1 214 ≤ 12 := hT.1 214
  have f215 : 0 ≤ m.1 215 ∧ m.1 215 ≤ 12 := hT.1 215
  have f216 : 0 ≤ m.1 216 ∧ m.1 216 ≤ 16 := hT.1 216
  have f217 : 0 ≤ m.1 217 ∧ m.1 217 ≤ 8 := hT.1 217
  have f219 : 0 ≤ m.1 219 ∧ m.1 219 ≤ 8 := hT.1 219
  have f222 : 0 ≤ m.1 222 ∧ m.1 222 ≤ 16 := hT.1 222
  have f223 : 0 ≤ m.1 223 ∧ m.1 223 ≤ 16 := hT.1 223
  refine Tc_of rfl ?_
  rw [show (khp m c, N) = (khp (mO m [] []) c, N) from by rw [mO_nil m]]
  show TT w D pm_91 (0, [(0, .ref 178), (1, .int (i32 s))], [], (khp (mO m [] []) c, N), 0, 0) (Q_rd_select m c N s)
  refine T_ld 1 (.ref 178) rfl (fun _ => rfl) ?_
  refine K_gf 4 (.ref 6) rfl rfl kd_178 rfl rfl rfl ?_
  refine T_callx 7 50 [.ref 6] [] rfl (fun _ => rfl) rfl rfl (c_tx_advance w (mO m [] []) c N D (by omega) hT ) (fun rr1 k2 => ?_)
  rcases k2 with ⟨m3, Tm3, Fm3, h4, rfl⟩ | ⟨xx7, m5, hx6, Tm5, Fm5, rfl⟩
  rotate_left
  · skip
    refine Or.inr ⟨_, _, _, _, rfl, ?_⟩
    exact Or.inr ⟨xx7, (mO m5 [] []), (hx6), Tm5, (fr_m (fr_s Fm5 (fr_m fr_0 rfl rfl) rfl rfl) rfl rfl), rfl⟩
  refine Or.inl ⟨_, _, _, _, rfl, ?_⟩
  refine K_nb (st' := []) rfl ?_
  have g8 : (-1) ≤ m3.1 206 ∧ m3.1 206 ≤ 65535 := Tm3.1 206
  replace h4 : (m.1 213) = 0 := h4
  refine T_ld 8 (.ref 178) rfl (fun _ => rfl) ?_
  refine K_gf 11 (.ref 31) rfl rfl kd_178 rfl rfl rfl ?_
  refine K_gf 14 (.ref 34) rfl rfl kd_31 rfl rfl rfl ?_
  refine T_ld 15 (.int (i32 s)) rfl (fun _ => rfl) ?_
  refine T_ld 16 (.ref 178) rfl (fun _ => rfl) ?_
  refine K_gf 19 (.ref 12) rfl rfl kd_178 rfl rfl rfl ?_
  refine K_gf 22 (.ref 22) rfl rfl kd_12 rfl rfl rfl ?_
  refine K_gf 25 (.int (i32 (m.1 220))) rfl rfl kd_22 rfl (kval_c2 (k := 220) (F := fun x => .int (i32 x)) rfl (show (m3.1 220) = (m.1 220) from (fr1 Fm3 220 rfl))) rfl ?_
  have G9 : ∀ j, 0 ≤ (upI (m.2 28) s (m.1 220)) j ∧ (upI (m.2 28) s (m.1 220)) j ≤ 1090 := upI_rg (hT.2.1 28) ⟨by omega, by omega⟩
  refine K_iast (a' := [(28, upI (m.2 28) s (m.1 220))]) 26 28 (m.2 28) rfl rfl rfl (by omega) (show s < (16 : Int) by omega) (show (m3.2 28) = (m.2 28) from (fr2 Fm3 28 rfl)) rfl ?_
  refine T_ld 27 (.ref 178) rfl (fun _ => rfl) ?_
  refine K_gf 30 (.ref 181) rfl rfl kd_178 rfl rfl rfl ?_
  refine T_ld 31 (.int (i32 (-1))) rfl (fun _ => rfl) ?_
  refine T_callx 34 92 [.ref 181, .int (i32 (-1))] [] rfl (fun _ => rfl) rfl rfl (c_fm_whole w (mO m3 [] [(28, upI (m.2 28) s (m.1 220))]) c N D (by omega) (KTy_mO Tm3 rfl rfl trivial ⟨G9, trivial⟩) (-1) ⟨by decide, by decide⟩ (show NKp (m3.2 18) (m3.2 19) by rewrite [(show (m3.2 18) = (m.2 18) from (fr2 Fm3 18 rfl)), (show (m3.2 19) = (m.2 19) from (fr2 Fm3 19 rfl))]; exact hNK) (show KPp (m3.1 203) (m3.2 8) (m3.2 9) (m3.1 214) (m3.1 215) (m3.1 216) (m3.1 217) (m3.1 221) (m3.1 223) (m3.1 219) by rewrite [(show (m3.1 203) = (m.1 203) from (fr1 Fm3 203 rfl)), (show (m3.2 8) = (m.2 8) from (fr2 Fm3 8 rfl)), (show (m3.2 9) = (m.2 9) from (fr2 Fm3 9 rfl)), (show (m3.1 214) = (m.1 214) from (fr1 Fm3 214 rfl)), (show (m3.1 215) = (m.1 215) from (fr1 Fm3 215 rfl)), (show (m3.1 216) = (m.1 216) from (fr1 Fm3 216 rfl)), (show (m3.1 217) = (m.1 217) from (fr1 Fm3 217 rfl)), (show (m3.1 221) = (m.1 221) from (fr1 Fm3 221 rfl)), (show (m3.1 223) = (m.1 223) from (fr1 Fm3 223 rfl)), (show (m3.1 219) = (m.1 219) from (fr1 Fm3 219 rfl))]; exact pKP) (show (-1) ≤ (-1 : Int) ∧ (-1 : Int) ≤ 15 by omega)) (fun rr10 k11 => ?_)
  rcases k11 with ⟨m12, ro, Tm12, Fm12, g13, h14, rfl⟩ | ⟨xx17, m15, hx16, Tm15, Fm15, rfl⟩
  rotate_left
  · skip
    refine Or.inr ⟨_, _, _, _, rfl, ?_⟩
    exact Or.inr ⟨xx17, (mO m15 [] []), (hx16), Tm15, (fr_m (fr_s Fm15 (fr_m (fr_s Fm3 (fr_m fr_0 rfl rfl) rfl rfl) rfl rfl) rfl rfl) rfl rfl), rfl⟩
  refine Or.inl ⟨_, _, _, _, rfl, ?_⟩
  refine K_nb (st' := [.int (i32 ro)]) rfl ?_
  obtain ⟨g13a, g13b⟩ := g13
  have g18 : (-1) ≤ m12.1 206 ∧ m12.1 206 ≤ 65535 := Tm12.1 206
  have g19 : 0 ≤ m12.1 213 ∧ m12.1 213 ≤ 1 := Tm12.1 213
  have g20 : 0 ≤ m12.1 220 ∧ m12.1 220 ≤ 1090 := Tm12.1 220
  replace h14 : NKp (m12.2 18) (m12.2 19) := h14
  have hNK := h14
  refine T_sto 35 [(2, .int (i32 ro)), (0, .ref 178), (1, .int (i32 s))] rfl (fun _ => rfl) ?_
  refine T_ld 36 (.ref 178) rfl (fun _ => rfl) ?_
  refine K_gf 39 (.ref 31) rfl rfl kd_178 rfl rfl rfl ?_
  refine K_gf 42 (.ref 35) rfl rfl kd_31 rfl rfl rfl ?_
  refine T_ld 43 (.int (i32 s)) rfl (fun _ => rfl) ?_
  refine T_ld 44 (.int (i32 ro)) rfl (fun _ => rfl) ?_
  have G21 : ∀ j, (-1) ≤ (upI (m.2 29) s ro) j ∧ (upI (m.2 29) s ro) j ≤ 1089 := upI_rg (hT.2.1 29) ⟨by omega, by omega⟩
  refine K_iast (a' := [(29, upI (m.2 29) s ro)]) 45 29 (m.2 29) rfl rfl rfl (by omega) (show s < (16 : Int) by omega) (show (m12.2 29) = (m.2 29) from ((fr2 Fm12 29 rfl).trans (fr2 Fm3 29 rfl))) rfl ?_
  refine T_ld 46 (.ref 178) rfl (fun _ => rfl) ?_
  refine K_gf 49 (.ref 6) rfl rfl kd_178 rfl rfl rfl ?_
  refine T_ld 51 (.int (i32 123)) rfl (fun _ => rfl) ?_
  refine T_callx 54 78 [.ref 6, .int (i32 123)] [] rfl (fun _ => rfl) rfl rfl (c_tx_expect w (mO m12 [] [(29, upI (m.2 29) s ro)]) c N D (by omega) (KTy_mO Tm12 rfl rfl trivial ⟨G21, trivial⟩) 123 ⟨by decide, by decide⟩) (fun rr22 k23 => ?_)
  rcases k23 with ⟨m24, Tm24, Fm24, h25, h26, rfl⟩ | ⟨xx29, m27, hx28, Tm27, Fm27, rfl⟩
  rotate_left
  · skip
    refine Or.inr ⟨_, _, _, _, rfl, ?_⟩
    exact Or.inr ⟨xx29, (mO m27 [] []), (hx28), Tm27, (fr_m (fr_s Fm27 (fr_m (fr_s Fm12 (fr_m (fr_s Fm3 (fr_m fr_0 rfl rfl) rfl rfl) rfl rfl) rfl rfl) rfl rfl) rfl rfl) rfl rfl), rfl⟩
  refine Or.inl ⟨_, _, _, _, rfl, ?_⟩
  refine K_nb (st' := []) rfl ?_
  have g30 : (-1) ≤ m24.1 206 ∧ m24.1 206 ≤ 65535 := Tm24.1 206
  replace h25 : (m12.1 206) = (123 : Int) := h25
  replace h26 : (m12.1 213) = 0 := h26
  refine T_ld 55 (.int (i32 0)) rfl (fun _ => rfl) ?_
  refine T_sto 56 [(3, .int (i32 0)), (2, .int (i32 ro)), (0, .ref 178), (1, .int (i32 s))] rfl (fun _ => rfl) ?_
  have L56_33 : ∀ (n41 : Nat) (v31 : Int) (m32 : mR), (R32 v31) → KTy m32 → fr [203, 205, 206, 207, 208, 209, 210, 211, 212, 221] [6, 7, 8, 9, 26, 29, 30, 31, 32, 33, 35, 36] (mO m24 [] []) m32 → (0 ≤ v31) → (KPp (m32.1 203) (m32.2 8) (m32.2 9) (m.1 214) (m.1 215) (m.1 216) (m.1 217) (m32.1 221) (m.1 223) (m.1 219)) → (SSp (m.1 222) (m32.2 36) (m32.1 221)) → (0 ≤ v31 ∧ v31 ≤ 9) → 12 - v31 < (n41 : Int) → TT w D pm_91 (56, [(0, .ref 178), (1, .int (i32 s)), (2, .int (i32 ro)), (3, .int (i32 v31))], [], (khp (mO m32 [] []) c, N), 0, 0) (Q_rd_select m c N s) := by
    intro n41
    induction n41 with
    | zero =>
      intro v31 m32 q38 Tm32 Fm32 ic34 ic35 ic36 ic37 hmu
      obtain ⟨q38a, q38b⟩ := id q38
      have q39_203 : 0 ≤ m32.1 203 ∧ m32.1 203 ≤ 90 := Tm32.1 203
      have q39_206 : (-1) ≤ m32.1 206 ∧ m32.1 206 ≤ 65535 := Tm32.1 206
      have q39_221 : 0 ≤ m32.1 221 ∧ m32.1 221 ≤ 16 := Tm32.1 221
      have pKP := ic35
      have hSS := ic36
      exfalso
      omega
    | succ n41 ih =>
      intro v31 m32 q38 Tm32 Fm32 ic34 ic35 ic36 ic37 hmu
      obtain ⟨q38a, q38b⟩ := id q38
      have q39_203 : 0 ≤ m32.1 203 ∧ m32.1 203 ≤ 90 := Tm32.1 203
      have q39_206 : (-1) ≤ m32.1 206 ∧ m32.1 206 ≤ 65535 := Tm32.1 206
      have q39_221 : 0 ≤ m32.1 221 ∧ m32.1 221 ≤ 16 := Tm32.1 221
      have pKP := ic35
      have hSS := ic36
      have ih42 := ih
      refine T_ld 57 (.int (i32 v31)) rfl (fun _ => rfl) ?_
      refine T_ld 59 (.int (i32 8)) rfl (fun _ => rfl) ?_
      refine T_icmp 99 62 rfl rfl rfl (r32 (by omega) (by omega)) ⟨by decide, by decide⟩ (fun (h43 : (8 : Int) < v31) => ?_) (fun (h43 : ¬ ((8 : Int) < v31)) => ?_)
      · skip
        refine T_ld 100 (.ref 178) rfl (fun _ => rfl) ?_
        refine K_gf 103 (.ref 6) rfl rfl kd_178 rfl rfl rfl ?_
        refine T_ld 106 (.int (i32 308)) rfl (fun _ => rfl) ?_
        refine T_callx 109 78 [.ref 6, .int (i32 308)] [] rfl (fun _ => rfl) rfl rfl (c_tx_expect w (mO m32 [] []) c N D (by omega) Tm32 308 ⟨by decide, by decide⟩) (fun rr44 k45 => ?_)
        rcases k45 with ⟨m46, Tm46, Fm46, h47, h48, rfl⟩ | ⟨xx51, m49, hx50, Tm49, Fm49, rfl⟩
        rotate_left
        · skip
          refine Or.inr ⟨_, _, _, _, rfl, ?_⟩
          exact Or.inr ⟨xx51, (mO m49 [] []), (hx50), Tm49, (fr_m (fr_s Fm49 (fr_m (fr_s Fm32 (fr_m (fr_s Fm24 (fr_m (fr_s Fm12 (fr_m (fr_s Fm3 (fr_m fr_0 rfl rfl) rfl rfl) rfl rfl) rfl rfl) rfl rfl) rfl rfl) rfl rfl) rfl rfl) rfl rfl) rfl rfl) rfl rfl), rfl⟩
        refine Or.inl ⟨_, _, _, _, rfl, ?_⟩
        refine K_nb (st' := []) rfl ?_
        have g52 : (-1) ≤ m46.1 206 ∧ m46.1 206 ≤ 65535 := Tm46.1 206
        replace h47 : (m32.1 206) = (308 : Int) := h47
        replace h48 : (m32.1 213) = 0 := h48
        rewrite [(show (m32.1 213) = (m12.1 213) from ((fr1 Fm32 213 rfl).trans (fr1 Fm24 213 rfl)))] at h48
        refine T_ld 110 (.ref 178) rfl (fun _ => rfl) ?_
        refine K_gf 113 (.ref 6) rfl rfl kd_178 rfl rfl rfl ?_
        refine T_ld 115 (.int (i32 58)) rfl (fun _ => rfl) ?_
        refine T_callx 118 78 [.ref 6, .int (i32 58)] [] rfl (fun _ => rfl) rfl rfl (c_tx_expect w (mO m46 [] []) c N D (by omega) Tm46 58 ⟨by decide, by decide⟩) (fun rr53 k54 => ?_)
        rcases k54 with ⟨m55, Tm55, Fm55, h56, h57, rfl⟩ | ⟨xx60, m58, hx59, Tm58, Fm58, rfl⟩
        rotate_left
        · skip
          refine Or.inr ⟨_, _, _, _, rfl, ?_⟩
          exact Or.inr ⟨xx60, (mO m58 [] []), (hx59), Tm58, (fr_m (fr_s Fm58 (fr_m (fr_s Fm46 (fr_m (fr_s Fm32 (fr_m (fr_s Fm24 (fr_m (fr_s Fm12 (fr_m (fr_s Fm3 (fr_m fr_0 rfl rfl) rfl rfl) rfl rfl) rfl rfl) rfl rfl) rfl rfl) rfl rfl) rfl rfl) rfl rfl) rfl rfl) rfl rfl) rfl rfl) rfl rfl), rfl⟩
        refine Or.inl ⟨_, _, _, _, rfl, ?_⟩
        refine K_nb (st' := []) rfl ?_
        have g61 : (-1) ≤ m55.1 206 ∧ m55.1 206 ≤ 65535 := Tm55.1 206
        replace h56 : (m46.1 206) = (58 : Int) := h56
        replace h57 : (m46.1 213) = 0 := h57
        rewrite [(show (m46.1 213) = (m12.1 213) from ((fr1 Fm46 213 rfl).trans ((fr1 Fm32 213 rfl).trans (fr1 Fm24 213 rfl))))] at h57
        refine T_ld 119 (.ref 178) rfl (fun _ => rfl) ?_
        refine K_gf 122 (.ref 31) rfl rfl kd_178 rfl rfl rfl ?_
        refine K_gf 125 (.ref 40) rfl rfl kd_31 rfl rfl rfl ?_
        refine T_ld 126 (.int (i32 s)) rfl (fun _ => rfl) ?_
        refine T_ld 127 (.ref 178) rfl (fun _ => rfl) ?_
        refine T_callx 130 117 [.ref 178] [.int (i32 s), .ref 40] rfl (fun _ => rfl) rfl rfl (c_rd_goal w (mO m55 [] []) c N D (by omega) Tm55 (show KPp (m55.1 203) (m55.2 8) (m55.2 9) (m55.1 214) (m55.1 215) (m55.1 216) (m55.1 217) (m55.1 221) (m55.1 223) (m55.1 219) by rewrite [(show (m55.1 203) = (m32.1 203) from ((fr1 Fm55 203 rfl).trans (fr1 Fm46 203 rfl))), (show (m55.2 8) = (m32.2 8) from ((fr2 Fm55 8 rfl).trans (fr2 Fm46 8 rfl))), (show (m55.2 9) = (m32.2 9) from ((fr2 Fm55 9 rfl).trans (fr2 Fm46 9 rfl))), (show (m55.1 214) = (m.1 214) from ((fr1 Fm55 214 rfl).trans ((fr1 Fm46 214 rfl).trans ((fr1 Fm32 214 rfl).trans ((fr1 Fm24 214 rfl).trans ((fr1 Fm12 214 rfl).trans (fr1 Fm3 214 rfl))))))), (show (m55.1 215) = (m.1 215) from ((fr1 Fm55 215 rfl).trans ((fr1 Fm46 215 rfl).trans ((fr1 Fm32 215 rfl).trans ((fr1 Fm24 215 rfl).trans ((fr1 Fm12 215 rfl).trans (fr1 Fm3 215 rfl))))))), (show (m55.1 216) = (m.1 216) from ((fr1 Fm55 216 rfl).trans ((fr1 Fm46 216 rfl).trans ((fr1 Fm32 216 rfl).trans ((fr1 Fm24 216 rfl).trans ((fr1 Fm12 216 rfl).trans (fr1 Fm3 216 rfl))))))), (show (m55.1 217) = (m.1 217) from ((fr1 Fm55 217 rfl).trans ((fr1 Fm46 217 rfl).trans ((fr1 Fm32 217 rfl).trans ((fr1 Fm24 217 rfl).trans ((fr1 Fm12 217 rfl).trans (fr1 Fm3 217 rfl))))))), (show (m55.1 221) = (m32.1 221) from ((fr1 Fm55 221 rfl).trans (fr1 Fm46 221 rfl))), (show (m55.1 223) = (m.1 223) from ((fr1 Fm55 223 rfl).trans ((fr1 Fm46 223 rfl).trans ((fr1 Fm32 223 rfl).trans ((fr1 Fm24 223 rfl).trans ((fr1 Fm12 223 rfl).trans (fr1 Fm3 223 rfl))))))), (show (m55.1 219) = (m.1 219) from ((fr1 Fm55 219 rfl).trans ((fr1 Fm46 219 rfl).trans ((fr1 Fm32 219 rfl).trans ((fr1 Fm24 219 rfl).trans ((fr1 Fm12 219 rfl).trans (fr1 Fm3 219 rfl)))))))]; exact pKP) (show SSp (m55.1 222) (m55.2 36) (m55.1 221) by rewrite [(show (m55.1 222) = (m.1 222) from ((fr1 Fm55 222 rfl).trans ((fr1 Fm46 222 rfl).trans ((fr1 Fm32 222 rfl).trans ((fr1 Fm24 222 rfl).trans ((fr1 Fm12 222 rfl).trans (fr1 Fm3 222 rfl))))))), (show (m55.2 36) = (m32.2 36) from ((fr2 Fm55 36 rfl).trans (fr2 Fm46 36 rfl))), (show (m55.1 221) = (m32.1 221) from ((fr1 Fm55 221 rfl).trans (fr1 Fm46 221 rfl)))]; exact hSS)) (fun rr62 k63 => ?_)
        rcases k63 with ⟨m64, go, Tm64, Fm64, g65, h66, h67, h68, rfl⟩ | ⟨xx71, m69, hx70, Tm69, Fm69, rfl⟩
        rotate_left
        · skip
          refine Or.inr ⟨_, _, _, _, rfl, ?_⟩
          exact Or.inr ⟨xx71, (mO m69 [] []), (hx70), Tm69, (fr_m (fr_s Fm69 (fr_m (fr_s Fm55 (fr_m (fr_s Fm46 (fr_m (fr_s Fm32 (fr_m (fr_s Fm24 (fr_m (fr_s Fm12 (fr_m (fr_s Fm3 (fr_m fr_0 rfl rfl) rfl rfl) rfl rfl) rfl rfl) rfl rfl) rfl rfl) rfl rfl) rfl rfl) rfl rfl) rfl rfl) rfl rfl) rfl rfl) rfl rfl) rfl rfl) rfl rfl), rfl⟩
        refine Or.inl ⟨_, _, _, _, rfl, ?_⟩
        refine K_nb (st' := [.int (i32 go), .int (i32 s), .ref 40]) rfl ?_
        obtain ⟨g65a, g65b⟩ := g65
        have g72 : 0 ≤ m64.1 203 ∧ m64.1 203 ≤ 90 := Tm64.1 203
        have g73 : (-1) ≤ m64.1 206 ∧ m64.1 206 ≤ 65535 := Tm64.1 206
        have g74 : 0 ≤ m64.1 221 ∧ m64.1 221 ≤ 16 := Tm64.1 221
        replace h66 : KPp (m64.1 203) (m64.2 8) (m64.2 9) (m55.1 214) (m55.1 215) (m55.1 216) (m55.1 217) (m64.1 221) (m55.1 223) (m55.1 219) := h66
        rewrite [(show (m55.1 214) = (m.1 214) from ((fr1 Fm55 214 rfl).trans ((fr1 Fm46 214 rfl).trans ((fr1 Fm32 214 rfl).trans ((fr1 Fm24 214 rfl).trans ((fr1 Fm12 214 rfl).trans (fr1 Fm3 214 rfl))))))), (show (m55.1 215) = (m.1 215) from ((fr1 Fm55 215 rfl).trans ((fr1 Fm46 215 rfl).trans ((fr1 Fm32 215 rfl).trans ((fr1 Fm24 215 rfl).trans ((fr1 Fm12 215 rfl).trans (fr1 Fm3 215 rfl))))))), (show (m55.1 216) = (m.1 216) from ((fr1 Fm55 216 rfl).trans ((fr1 Fm46 216 rfl).trans ((fr1 Fm32 216 rfl).trans ((fr1 Fm24 216 rfl).trans ((fr1 Fm12 216 rfl).trans (fr1 Fm3 216 rfl))))))), (show (m55.1 217) = (m.1 217) from ((fr1 Fm55 217 rfl).trans ((fr1 Fm46 217 rfl).trans ((fr1 Fm32 217 rfl).trans ((fr1 Fm24 217 rfl).trans ((fr1 Fm12 217 rfl).trans (fr1 Fm3 217 rfl))))))), (show (m55.1 223) = (m.1 223) from ((fr1 Fm55 223 rfl).trans ((fr1 Fm46 223 rfl).trans ((fr1 Fm32 223 rfl).trans ((fr1 Fm24 223 rfl).trans ((fr1 Fm12 223 rfl).trans (fr1 Fm3 223 rfl))))))), (show (m55.1 219) = (m.1 219) from ((fr1 Fm55 219 rfl).trans ((fr1 Fm46 219 rfl).trans ((fr1 Fm32 219 rfl).trans ((fr1 Fm24 219 rfl).trans ((fr1 Fm12 219 rfl).trans (fr1 Fm3 219 rfl)))))))] at h66
        have pKP := h66
        replace h67 : SSp (m55.1 222) (m64.2 36) (m64.1 221) := h67
        rewrite [(show (m55.1 222) = (m.1 222) from ((fr1 Fm55 222 rfl).trans ((fr1 Fm46 222 rfl).trans ((fr1 Fm32 222 rfl).trans ((fr1 Fm24 222 rfl).trans ((fr1 Fm12 222 rfl).trans (fr1 Fm3 222 rfl)))))))] at h67
        have hSS := h67
        replace h68 : (m55.1 221) ≤ (m64.1 221) := h68
        rewrite [(show (m55.1 221) = (m32.1 221) from ((fr1 Fm55 221 rfl).trans (fr1 Fm46 221 rfl)))] at h68
        have G75 : ∀ j, 0 ≤ (upI (m.2 34) s go) j ∧ (upI (m.2 34) s go) j ≤ 17 := upI_rg (hT.2.1 34) ⟨by omega, by omega⟩
        refine K_iast (a' := [(34, upI (m.2 34) s go)]) 131 34 (m.2 34) rfl rfl rfl (by omega) (show s < (16 : Int) by omega) (show (m64.2 34) = (m.2 34) from ((fr2 Fm64 34 rfl).trans ((fr2 Fm55 34 rfl).trans ((fr2 Fm46 34 rfl).trans ((fr2 Fm32 34 rfl).trans ((fr2 Fm24 34 rfl).trans ((fr2 Fm12 34 rfl).trans (fr2 Fm3 34 rfl)))))))) rfl ?_
        refine T_ld 132 (.ref 178) rfl (fun _ => rfl) ?_
        refine K_gf 135 (.ref 6) rfl rfl kd_178 rfl rfl rfl ?_
        refine T_ld 137 (.int (i32 59)) rfl (fun _ => rfl) ?_
        refine T_callx 140 78 [.ref 6, .int (i32 59)] [] rfl (fun _ => rfl) rfl rfl (c_tx_expect w (mO m64 [] [(34, upI (m.2 34) s go)]) c N D (by omega) (KTy_mO Tm64 rfl rfl trivial ⟨G75, trivial⟩) 59 ⟨by decide, by decide⟩) (fun rr76 k77 => ?_)
        rcases k77 with ⟨m78, Tm78, Fm78, h79, h80, rfl⟩ | ⟨xx83, m81, hx82, Tm81, Fm81, rfl⟩
        rotate_left
        · skip
          refine Or.inr ⟨_, _, _, _, rfl, ?_⟩
          exact Or.inr ⟨xx83, (mO m81 [] []), (hx82), Tm81, (fr_m (fr_s Fm81 (fr_m (fr_s Fm64 (fr_m (fr_s Fm55 (fr_m (fr_s Fm46 (fr_m (fr_s Fm32 (fr_m (fr_s Fm24 (fr_m (fr_s Fm12 (fr_m (fr_s Fm3 (fr_m fr_0 rfl rfl) rfl rfl) rfl rfl) rfl rfl) rfl rfl) rfl rfl) rfl rfl) rfl rfl) rfl rfl) rfl rfl) rfl rfl) rfl rfl) rfl rfl) rfl rfl) rfl rfl) rfl rfl) rfl rfl), rfl⟩
        refine Or.inl ⟨_, _, _, _, rfl, ?_⟩
        refine K_nb (st' := []) rfl ?_
        have g84 : (-1) ≤ m78.1 206 ∧ m78.1 206 ≤ 65535 := Tm78.1 206
        replace h79 : (m64.1 206) = (59 : Int) := h79
        replace h80 : (m64.1 213) = 0 := h80
        rewrite [(show (m64.1 213) = (m12.1 213) from ((fr1 Fm64 213 rfl).trans ((fr1 Fm55 213 rfl).trans ((fr1 Fm46 213 rfl).trans ((fr1 Fm32 213 rfl).trans (fr1 Fm24 213 rfl))))))] at h80
        refine T_ld 141 (.ref 178) rfl (fun _ => rfl) ?_
        refine K_gf 144 (.ref 6) rfl rfl kd_178 rfl rfl rfl ?_
        refine T_ld 146 (.int (i32 125)) rfl (fun _ => rfl) ?_
        refine T_callx 149 78 [.ref 6, .int (i32 125)] [] rfl (fun _ => rfl) rfl rfl (c_tx_expect w (mO m78 [] []) c N D (by omega) Tm78 125 ⟨by decide, by decide⟩) (fun rr85 k86 => ?_)
        rcases k86 with ⟨m87, Tm87, Fm87, h88, h89, rfl⟩ | ⟨xx92, m90, hx91, Tm90, Fm90, rfl⟩
        rotate_left
        · skip
          refine Or.inr ⟨_, _, _, _, rfl, ?_⟩
          exact Or.inr ⟨xx92, (mO m90 [] []), (hx91), Tm90, (fr_m (fr_s Fm90 (fr_m (fr_s Fm78 (fr_m (fr_s Fm64 (fr_m (fr_s Fm55 (fr_m (fr_s Fm46 (fr_m (fr_s Fm32 (fr_m (fr_s Fm24 (fr_m (fr_s Fm12 (fr_m (fr_s Fm3 (fr_m fr_0 rfl rfl) rfl rfl) rfl rfl) rfl rfl) rfl rfl) rfl rfl) rfl rfl) rfl rfl) rfl rfl) rfl rfl) rfl rfl) rfl rfl) rfl rfl) rfl rfl) rfl rfl) rfl rfl) rfl rfl) rfl rfl) rfl rfl), rfl⟩
        refine Or.inl ⟨_, _, _, _, rfl, ?_⟩
        refine K_nb (st' := []) rfl ?_
        have g93 : (-1) ≤ m87.1 206 ∧ m87.1 206 ≤ 65535 := Tm87.1 206
        replace h88 : (m78.1 206) = (125 : Int) := h88
        replace h89 : (m78.1 213) = 0 := h89
        rewrite [(show (m78.1 213) = (m12.1 213) from ((fr1 Fm78 213 rfl).trans ((fr1 Fm64 213 rfl).trans ((fr1 Fm55 213 rfl).trans ((fr1 Fm46 213 rfl).trans ((fr1 Fm32 213 rfl).trans (fr1 Fm24 213 rfl)))))))] at h89
        refine T_ret rfl (fun _ => rfl) ?_
        exact Or.inl ⟨(mO m87 [] []), Tm87, (fr_m (fr_s Fm87 (fr_m (fr_s Fm78 (fr_m (fr_s Fm64 (fr_m (fr_s Fm55 (fr_m (fr_s Fm46 (fr_m (fr_s Fm32 (fr_m (fr_s Fm24 (fr_m (fr_s Fm12 (fr_m (fr_s Fm3 (fr_m fr_0 rfl rfl) rfl rfl) rfl rfl) rfl rfl) rfl rfl) rfl rfl) rfl rfl) rfl rfl) rfl rfl) rfl rfl) rfl rfl) rfl rfl) rfl rfl) rfl rfl) rfl rfl) rfl rfl) rfl rfl) rfl rfl) rfl rfl), (show KPp (m87.1 203) (m87.2 8) (m87.2 9) (m.1 214) (m.1 215) (m.1 216) (m.1 217) (m87.1 221) (m.1 223) (m.1 219) by rewrite [(show (m87.1 203) = (m64.1 203) from ((fr1 Fm87 203 rfl).trans (fr1 Fm78 203 rfl))), (show (m87.2 8) = (m64.2 8) from ((fr2 Fm87 8 rfl).trans (fr2 Fm78 8 rfl))), (show (m87.2 9) = (m64.2 9) from ((fr2 Fm87 9 rfl).trans (fr2 Fm78 9 rfl))), (show (m87.1 221) = (m64.1 221) from ((fr1 Fm87 221 rfl).trans (fr1 Fm78 221 rfl)))]; first | (exact pKP) | (exfalso; omega)), (show SSp (m.1 222) (m87.2 36) (m87.1 221) by rewrite [(show (m87.2 36) = (m64.2 36) from ((fr2 Fm87 36 rfl).trans (fr2 Fm78 36 rfl))), (show (m87.1 221) = (m64.1 221) from ((fr1 Fm87 221 rfl).trans (fr1 Fm78 221 rfl)))]; first | (exact hSS) | (exfalso; omega)), (show NKp (m87.2 18) (m87.2 19) by rewrite [(show (m87.2 18) = (m12.2 18) from ((fr2 Fm87 18 rfl).trans ((fr2 Fm78 18 rfl).trans ((fr2 Fm64 18 rfl).trans ((fr2 Fm55 18 rfl).trans ((fr2 Fm46 18 rfl).trans ((fr2 Fm32 18 rfl).trans (fr2 Fm24 18 rfl)))))))), (show (m87.2 19) = (m12.2 19) from ((fr2 Fm87 19 rfl).trans ((fr2 Fm78 19 rfl).trans ((fr2 Fm64 19 rfl).trans ((fr2 Fm55 19 rfl).trans ((fr2 Fm46 19 rfl).trans ((fr2 Fm32 19 rfl).trans (fr2 Fm24 19 rfl))))))))]; first | (exact hNK) | (exfalso; omega)), rfl⟩
      · skip
        refine T_ld 63 (.ref 178) rfl (fun _ => rfl) ?_
        refine K_gf 66 (.ref 6) rfl rfl kd_178 rfl rfl rfl ?_
        refine K_gf 69 (.int (i32 (m32.1 206))) rfl rfl kd_6 rfl rfl rfl ?_
        refine T_ld 72 (.int (i32 257)) rfl (fun _ => rfl) ?_
        refine T_icmp 99 75 rfl rfl rfl (r32 (by omega) (by omega)) ⟨by decide, by decide⟩ (fun (h94 : (m32.1 206) ≠ 257) => ?_) (fun (h94 : ¬ ((m32.1 206) ≠ 257)) => ?_)
        · skip
          refine T_ld 100 (.ref 178) rfl (fun _ => rfl) ?_
          refine K_gf 103 (.ref 6) rfl rfl kd_178 rfl rfl rfl ?_
          refine T_ld 106 (.int (i32 308)) rfl (fun _ => rfl) ?_
          refine T_callx 109 78 [.ref 6, .int (i32 308)] [] rfl (fun _ => rfl) rfl rfl (c_tx_expect w (mO m32 [] []) c N D (by omega) Tm32 308 ⟨by decide, by decide⟩) (fun rr95 k96 => ?_)
          rcases k96 with ⟨m97, Tm97, Fm97, h98, h99, rfl⟩ | ⟨xx102, m100, hx101, Tm100, Fm100, rfl⟩
          rotate_left
          · skip
            refine Or.inr ⟨_, _, _, _, rfl, ?_⟩
            exact Or.inr ⟨xx102, (mO m100 [] []), (hx101), Tm100, (fr_m (fr_s Fm100 (fr_m (fr_s Fm32 (fr_m (fr_s Fm24 (fr_m (fr_s Fm12 (fr_m (fr_s Fm3 (fr_m fr_0 rfl rfl) rfl rfl) rfl rfl) rfl rfl) rfl rfl) rfl rfl) rfl rfl) rfl rfl) rfl rfl) rfl rfl) rfl rfl), rfl⟩
          refine Or.inl ⟨_, _, _, _, rfl, ?_⟩
          refine K_nb (st' := []) rfl ?_
          have g103 : (-1) ≤ m97.1 206 ∧ m97.1 206 ≤ 65535 := Tm97.1 206
          replace h98 : (m32.1 206) = (308 : Int) := h98
          replace h99 : (m32.1 213) = 0 := h99
          rewrite [(show (m32.1 213) = (m12.1 213) from ((fr1 Fm32 213 rfl).trans (fr1 Fm24 213 rfl)))] at h99
          refine T_ld 110 (.ref 178) rfl (fun _ => rfl) ?_
          refine K_gf 113 (.ref 6) rfl rfl kd_178 rfl rfl rfl ?_
          refine T_ld 115 (.int (i32 58)) rfl (fun _ => rfl) ?_
          refine T_callx 118 78 [.ref 6, .int (i32 58)] [] rfl (fun _ => rfl) rfl rfl (c_tx_expect w (mO m97 [] []) c N D (by omega) Tm97 58 ⟨by decide, by decide⟩) (fun rr104 k105 => ?_)
          rcases k105 with ⟨m106, Tm106, Fm106, h107, h108, rfl⟩ | ⟨xx111, m109, hx110, Tm109, Fm109, rfl⟩
          rotate_left
          · skip
            refine Or.inr ⟨_, _, _, _, rfl, ?_⟩
            exact Or.inr ⟨xx111, (mO m109 [] []), (hx110), Tm109, (fr_m (fr_s Fm109 (fr_m (fr_s Fm97 (fr_m (fr_s Fm32 (fr_m (fr_s Fm24 (fr_m (fr_s Fm12 (fr_m (fr_s Fm3 (fr_m fr_0 rfl rfl) rfl rfl) rfl rfl) rfl rfl) rfl rfl) rfl rfl) rfl rfl) rfl rfl) rfl rfl) rfl rfl) rfl rfl) rfl rfl) rfl rfl), rfl⟩
          refine Or.inl ⟨_, _, _, _, rfl, ?_⟩
          refine K_nb (st' := []) rfl ?_
          have g112 : (-1) ≤ m106.1 206 ∧ m106.1 206 ≤ 65535 := Tm106.1 206
          replace h107 : (m97.1 206) = (58 : Int) := h107
          replace h108 : (m97.1 213) = 0 := h108
          rewrite [(show (m97.1 213) = (m12.1 213) from ((fr1 Fm97 213 rfl).trans ((fr1 Fm32 213 rfl).trans (fr1 Fm24 213 rfl))))] at h108
          refine T_ld 119 (.ref 178) rfl (fun _ => rfl) ?_
          refine K_gf 122 (.ref 31) rfl rfl kd_178 rfl rfl rfl ?_
          refine K_gf 125 (.ref 40) rfl rfl kd_31 rfl rfl rfl ?_
          refine T_ld 126 (.int (i32 s)) rfl (fun _ => rfl) ?_
          refine T_ld 127 (.ref 178) rfl (fun _ => rfl) ?_
          refine T_callx 130 117 [.ref 178] [.int (i32 s), .ref 40] rfl (fun _ => rfl) rfl rfl (c_rd_goal w (mO m106 [] []) c N D (by omega) Tm106 (show KPp (m106.1 203) (m106.2 8) (m106.2 9) (m106.1 214) (m106.1 215) (m106.1 216) (m106.1 217) (m106.1 221) (m106.1 223) (m106.1 219) by rewrite [(show (m106.1 203) = (m32.1 203) from ((fr1 Fm106 203 rfl).trans (fr1 Fm97 203 rfl))), (show (m106.2 8) = (m32.2 8) from ((fr2 Fm106 8 rfl).trans (fr2 Fm97 8 rfl))), (show (m106.2 9) = (m32.2 9) from ((fr2 Fm106 9 rfl).trans (fr2 Fm97 9 rfl))), (show (m106.1 214) = (m.1 214) from ((fr1 Fm106 214 rfl).trans ((fr1 Fm97 214 rfl).trans ((fr1 Fm32 214 rfl).trans ((fr1 Fm24 214 rfl).trans ((fr1 Fm12 214 rfl).trans (fr1 Fm3 214 rfl))))))), (show (m106.1 215) = (m.1 215) from ((fr1 Fm106 215 rfl).trans ((fr1 Fm97 215 rfl).trans ((fr1 Fm32 215 rfl).trans ((fr1 Fm24 215 rfl).trans ((fr1 Fm12 215 rfl).trans (fr1 Fm3 215 rfl))))))), (show (m106.1 216) = (m.1 216) from ((fr1 Fm106 216 rfl).trans ((fr1 Fm97 216 rfl).trans ((fr1 Fm32 216 rfl).trans ((fr1 Fm24 216 rfl).trans ((fr1 Fm12 216 rfl).trans (fr1 Fm3 216 rfl))))))), (show (m106.1 217) = (m.1 217) from ((fr1 Fm106 217 rfl).trans ((fr1 Fm97 217 rfl).trans ((fr1 Fm32 217 rfl).trans ((fr1 Fm24 217 rfl).trans ((fr1 Fm12 217 rfl).trans (fr1 Fm3 217 rfl))))))), (show (m106.1 221) = (m32.1 221) from ((fr1 Fm106 221 rfl).trans (fr1 Fm97 221 rfl))), (show (m106.1 223) = (m.1 223) from ((fr1 Fm106 223 rfl).trans ((fr1 Fm97 223 rfl).trans ((fr1 Fm32 223 rfl).trans ((fr1 Fm24 223 rfl).trans ((fr1 Fm12 223 rfl).trans (fr1 Fm3 223 rfl))))))), (show (m106.1 219) = (m.1 219) from ((fr1 Fm106 219 rfl).trans ((fr1 Fm97 219 rfl).trans ((fr1 Fm32 219 rfl).trans ((fr1 Fm24 219 rfl).trans ((fr1 Fm12 219 rfl).trans (fr1 Fm3 219 rfl)))))))]; exact pKP) (show SSp (m106.1 222) (m106.2 36) (m106.1 221) by rewrite [(show (m106.1 222) = (m.1 222) from ((fr1 Fm106 222 rfl).trans ((fr1 Fm97 222 rfl).trans ((fr1 Fm32 222 rfl).trans ((fr1 Fm24 222 rfl).trans ((fr1 Fm12 222 rfl).trans (fr1 Fm3 222 rfl))))))), (show (m106.2 36) = (m32.2 36) from ((fr2 Fm106 36 rfl).trans (fr2 Fm97 36 rfl))), (show (m106.1 221) = (m32.1 221) from ((fr1 Fm106 221 rfl).trans (fr1 Fm97 221 rfl)))]; exact hSS)) (fun rr113 k114 => ?_)
          rcases k114 with ⟨m115, go, Tm115, Fm115, g116, h117, h118, h119, rfl⟩ | ⟨xx122, m120, hx121, Tm120, Fm120, rfl⟩
          rotate_left
          · skip
            refine Or.inr ⟨_, _, _, _, rfl, ?_⟩
            exact Or.inr ⟨xx122, (mO m120 [] []), (hx121), Tm120, (fr_m (fr_s Fm120 (fr_m (fr_s Fm106 (fr_m (fr_s Fm97 (fr_m (fr_s Fm32 (fr_m (fr_s Fm24 (fr_m (fr_s Fm12 (fr_m (fr_s Fm3 (fr_m fr_0 rfl rfl) rfl rfl) rfl rfl) rfl rfl) rfl rfl) rfl rfl) rfl rfl) rfl rfl) rfl rfl) rfl rfl) rfl rfl) rfl rfl) rfl rfl) rfl rfl) rfl rfl), rfl⟩
          refine Or.inl ⟨_, _, _, _, rfl, ?_⟩
          refine K_nb (st' := [.int (i32 go), .int (i32 s), .ref 40]) rfl ?_
          obtain ⟨g116a, g116b⟩ := g116
          have g123 : 0 ≤ m115.1 203 ∧ m115.1 203 ≤ 90 := Tm115.1 203
          have g124 : (-1) ≤ m115.1 206 ∧ m115.1 206 ≤ 65535 := Tm115.1 206
          have g125 : 0 ≤ m115.1 221 ∧ m115.1 221 ≤ 16 := Tm115.1 221
          replace h117 : KPp (m115.1 203) (m115.2 8) (m115.2 9) (m106.1 214) (m106.1 215) (m106.1 216) (m106.1 217) (m115.1 221) (m106.1 223) (m106.1 219) := h117
          rewrite [(show (m106.1 214) = (m.1 214) from ((fr1 Fm106 214 rfl).trans ((fr1 Fm97 214 rfl).trans ((fr1 Fm32 214 rfl).trans ((fr1 Fm24 214 rfl).trans ((fr1 Fm12 214 rfl).trans (fr1 Fm3 214 rfl))))))), (show (m106.1 215) = (m.1 215) from ((fr1 Fm106 215 rfl).trans ((fr1 Fm97 215 rfl).trans ((fr1 Fm32 215 rfl).trans ((fr1 Fm24 215 rfl).trans ((fr1 Fm12 215 rfl).trans (fr1 Fm3 215 rfl))))))), (show (m106.1 216) = (m.1 216) from ((fr1 Fm106 216 rfl).trans ((fr1 Fm97 216 rfl).trans ((fr1 Fm32 216 rfl).trans ((fr1 Fm24 216 rfl).trans ((fr1 Fm12 216 rfl).trans (fr1 Fm3 216 rfl))))))), (show (m106.1 217) = (m.1 217) from ((fr1 Fm106 217 rfl).trans ((fr1 Fm97 217 rfl).trans ((fr1 Fm32 217 rfl).trans ((fr1 Fm24 217 rfl).trans ((fr1 Fm12 217 rfl).trans (fr1 Fm3 217 rfl))))))), (show (m106.1 223) = (m.1 223) from ((fr1 Fm106 223 rfl).trans ((fr1 Fm97 223 rfl).trans ((fr1 Fm32 223 rfl).trans ((fr1 Fm24 223 rfl).trans ((fr1 Fm12 223 rfl).trans (fr1 Fm3 223 rfl))))))), (show (m106.1 219) = (m.1 219) from ((fr1 Fm106 219 rfl).trans ((fr1 Fm97 219 rfl).trans ((fr1 Fm32 219 rfl).trans ((fr1 Fm24 219 rfl).trans ((fr1 Fm12 219 rfl).trans (fr1 Fm3 219 rfl)))))))] at h117
          have pKP := h117
          replace h118 : SSp (m106.1 222) (m115.2 36) (m115.1 221) := h118
          rewrite [(show (m106.1 222) = (m.1 222) from ((fr1 Fm106 222 rfl).trans ((fr1 Fm97 222 rfl).trans ((fr1 Fm32 222 rfl).trans ((fr1 Fm24 222 rfl).trans ((fr1 Fm12 222 rfl).trans (fr1 Fm3 222 rfl)))))))] at h118
          have hSS := h118
          replace h119 : (m106.1 221) ≤ (m115.1 221) := h119
          rewrite [(show (m106.1 221) = (m32.1 221) from ((fr1 Fm106 221 rfl).trans (fr1 Fm97 221 rfl)))] at h119
          have G126 : ∀ j, 0 ≤ (upI (m.2 34) s go) j ∧ (upI (m.2 34) s go) j ≤ 17 := upI_rg (hT.2.1 34) ⟨by omega, by omega⟩
          refine K_iast (a' := [(34, upI (m.2 34) s go)]) 131 34 (m.2 34) rfl rfl rfl (by omega) (show s < (16 : Int) by omega) (show (m115.2 34) = (m.2 34) from ((fr2 Fm115 34 rfl).trans ((fr2 Fm106 34 rfl).trans ((fr2 Fm97 34 rfl).trans ((fr2 Fm32 34 rfl).trans ((fr2 Fm24 34 rfl).trans ((fr2 Fm12 34 rfl).trans (fr2 Fm3 34 rfl)))))))) rfl ?_
          refine T_ld 132 (.ref 178) rfl (fun _ => rfl) ?_
          refine K_gf 135 (.ref 6) rfl rfl kd_178 rfl rfl rfl ?_
          refine T_ld 137 (.int (i32 59)) rfl (fun _ => rfl) ?_
          refine T_callx 140 78 [.ref 6, .int (i32 59)] [] rfl (fun _ => rfl) rfl rfl (c_tx_expect w (mO m115 [] [(34, upI (m.2 34) s go)]) c N D (by omega) (KTy_mO Tm115 rfl rfl trivial ⟨G126, trivial⟩) 59 ⟨by decide, by decide⟩) (fun rr127 k128 => ?_)
          rcases k128 with ⟨m129, Tm129, Fm129, h130, h131, rfl⟩ | ⟨xx134, m132, hx133, Tm132, Fm132, rfl⟩
          rotate_left
          · skip
            refine Or.inr ⟨_, _, _, _, rfl, ?_⟩
            exact Or.inr ⟨xx134, (mO m132 [] []), (hx133), Tm132, (fr_m (fr_s Fm132 (fr_m (fr_s Fm115 (fr_m (fr_s Fm106 (fr_m (fr_s Fm97 (fr_m (fr_s Fm32 (fr_m (fr_s Fm24 (fr_m (fr_s Fm12 (fr_m (fr_s Fm3 (fr_m fr_0 rfl rfl) rfl rfl) rfl rfl) rfl rfl) rfl rfl) rfl rfl) rfl rfl) rfl rfl) rfl rfl) rfl rfl) rfl rfl) rfl rfl) rfl rfl) rfl rfl) rfl rfl) rfl rfl) rfl rfl), rfl⟩
          refine Or.inl ⟨_, _, _, _, rfl, ?_⟩
          refine K_nb (st' := []) rfl ?_
          have g135 : (-1) ≤ m129.1 206 ∧ m129.1 206 ≤ 65535 := Tm129.1 206
          replace h130 : (m115.1 206) = (59 : Int) := h130
          replace h131 : (m115.1 213) = 0 := h131
          rewrite [(show (m115.1 213) = (m12.1 213) from ((fr1 Fm115 213 rfl).trans ((fr1 Fm106 213 rfl).trans ((fr1 Fm97 213 rfl).trans ((fr1 Fm32 213 rfl).trans (fr1 Fm24 213 rfl))))))] at h131
          refine T_ld 141 (.ref 178) rfl (fun _ => rfl) ?_
          refine K_gf 144 (.ref 6) rfl rfl kd_178 rfl rfl rfl ?_
          refine T_ld 146 (.int (i32 125)) rfl (fun _ => rfl) ?_
          refine T_callx 149 78 [.ref 6, .int (i32 125)] [] rfl (fun _ => rfl) rfl rfl (c_tx_expect w (mO m129 [] []) c N D (by omega) Tm129 125 ⟨by decide, by decide⟩) (fun rr136 k137 => ?_)
          rcases k137 with ⟨m138, Tm138, Fm138, h139, h140, rfl⟩ | ⟨xx143, m141, hx142, Tm141, Fm141, rfl⟩
          rotate_left
          · skip
            refine Or.inr ⟨_, _, _, _, rfl, ?_⟩
            exact Or.inr ⟨xx143, (mO m141 [] []), (hx142), Tm141, (fr_m (fr_s Fm141 (fr_m (fr_s Fm129 (fr_m (fr_s Fm115 (fr_m (fr_s Fm106 (fr_m (fr_s Fm97 (fr_m (fr_s Fm32 (fr_m (fr_s Fm24 (fr_m (fr_s Fm12 (fr_m (fr_s Fm3 (fr_m fr_0 rfl rfl) rfl rfl) rfl rfl) rfl rfl) rfl rfl) rfl rfl) rfl rfl) rfl rfl) rfl rfl) rfl rfl) rfl rfl) rfl rfl) rfl rfl) rfl rfl) rfl rfl) rfl rfl) rfl rfl) rfl rfl) rfl rfl), rfl⟩
          refine Or.inl ⟨_, _, _, _, rfl, ?_⟩
          refine K_nb (st' := []) rfl ?_
          have g144 : (-1) ≤ m138.1 206 ∧ m138.1 206 ≤ 65535 := Tm138.1 206
          replace h139 : (m129.1 206) = (125 : Int) := h139
          replace h140 : (m129.1 213) = 0 := h140
          rewrite [(show (m129.1 213) = (m12.1 213) from ((fr1 Fm129 213 rfl).trans ((fr1 Fm115 213 rfl).trans ((fr1 Fm106 213 rfl).trans ((fr1 Fm97 213 rfl).trans ((fr1 Fm32 213 rfl).trans (fr1 Fm24 213 rfl)))))))] at h140
          refine T_ret rfl (fun _ => rfl) ?_
          exact Or.inl ⟨(mO m138 [] []), Tm138, (fr_m (fr_s Fm138 (fr_m (fr_s Fm129 (fr_m (fr_s Fm115 (fr_m (fr_s Fm106 (fr_m (fr_s Fm97 (fr_m (fr_s Fm32 (fr_m (fr_s Fm24 (fr_m (fr_s Fm12 (fr_m (fr_s Fm3 (fr_m fr_0 rfl rfl) rfl rfl) rfl rfl) rfl rfl) rfl rfl) rfl rfl) rfl rfl) rfl rfl) rfl rfl) rfl rfl) rfl rfl) rfl rfl) rfl rfl) rfl rfl) rfl rfl) rfl rfl) rfl rfl) rfl rfl) rfl rfl), (show KPp (m138.1 203) (m138.2 8) (m138.2 9) (m.1 214) (m.1 215) (m.1 216) (m.1 217) (m138.1 221) (m.1 223) (m.1 219) by rewrite [(show (m138.1 203) = (m115.1 203) from ((fr1 Fm138 203 rfl).trans (fr1 Fm129 203 rfl))), (show (m138.2 8) = (m115.2 8) from ((fr2 Fm138 8 rfl).trans (fr2 Fm129 8 rfl))), (show (m138.2 9) = (m115.2 9) from ((fr2 Fm138 9 rfl).trans (fr2 Fm129 9 rfl))), (show (m138.1 221) = (m115.1 221) from ((fr1 Fm138 221 rfl).trans (fr1 Fm129 221 rfl)))]; first | (exact pKP) | (exfalso; omega)), (show SSp (m.1 222) (m138.2 36) (m138.1 221) by rewrite [(show (m138.2 36) = (m115.2 36) from ((fr2 Fm138 36 rfl).trans (fr2 Fm129 36 rfl))), (show (m138.1 221) = (m115.1 221) from ((fr1 Fm138 221 rfl).trans (fr1 Fm129 221 rfl)))]; first | (exact hSS) | (exfalso; omega)), (show NKp (m138.2 18) (m138.2 19) by rewrite [(show (m138.2 18) = (m12.2 18) from ((fr2 Fm138 18 rfl).trans ((fr2 Fm129 18 rfl).trans ((fr2 Fm115 18 rfl).trans ((fr2 Fm106 18 rfl).trans ((fr2 Fm97 18 rfl).trans ((fr2 Fm32 18 rfl).trans (fr2 Fm24 18 rfl)))))))), (show (m138.2 19) = (m12.2 19) from ((fr2 Fm138 19 rfl).trans ((fr2 Fm129 19 rfl).trans ((fr2 Fm115 19 rfl).trans ((fr2 Fm106 19 rfl).trans ((fr2 Fm97 19 rfl).trans ((fr2 Fm32 19 rfl).trans (fr2 Fm24 19 rfl))))))))]; first | (exact hNK) | (exfalso; omega)), rfl⟩
        · skip
          refine T_ld 76 (.ref 178) rfl (fun _ => rfl) ?_
          refine T_ld 77 (.int (i32 s)) rfl (fun _ => rfl) ?_
          refine T_ld 78 (.int (i32 v31)) rfl (fun _ => rfl) ?_
          refine T_ld 79 (.ref 178) rfl (fun _ => rfl) ?_
          refine K_gf 82 (.ref 12) rfl rfl kd_178 rfl rfl rfl ?_
          refine K_gf 85 (.ref 22) rfl rfl kd_12 rfl rfl rfl ?_
          refine K_gf 88 (.ref 27) rfl rfl kd_22 rfl rfl rfl ?_
          refine T_ld 89 (.int (i32 ro)) rfl (fun _ => rfl) ?_
          refine K_iald 90 22 (m12.2 22) rfl rfl rfl (by omega) (show ro < (1090 : Int) by omega) (show (m32.2 22) = (m12.2 22) from ((fr2 Fm32 22 rfl).trans (fr2 Fm24 22 rfl))) ?_
          have e145 : 0 ≤ (m12.2 22) ro ∧ (m12.2 22) ro ≤ 64 := (Tm12.2.1 22) ro
          refine T_callx 93 114 [.ref 178, .int (i32 s), .int (i32 v31), .int (i32 ((m12.2 22) ro))] [] rfl (fun _ => rfl) rfl rfl (c_rd_selectCase w (mO m32 [] []) c N D (by omega) Tm32 s v31 ((m12.2 22) ro) (r32 (by omega) (by omega)) (r32 (by omega) (by omega)) (r32 (by omega) (by omega)) (show KPp (m32.1 203) (m32.2 8) (m32.2 9) (m32.1 214) (m32.1 215) (m32.1 216) (m32.1 217) (m32.1 221) (m32.1 223) (m32.1 219) by rewrite [(show (m32.1 214) = (m.1 214) from ((fr1 Fm32 214 rfl).trans ((fr1 Fm24 214 rfl).trans ((fr1 Fm12 214 rfl).trans (fr1 Fm3 214 rfl))))), (show (m32.1 215) = (m.1 215) from ((fr1 Fm32 215 rfl).trans ((fr1 Fm24 215 rfl).trans ((fr1 Fm12 215 rfl).trans (fr1 Fm3 215 rfl))))), (show (m32.1 216) = (m.1 216) from ((fr1 Fm32 216 rfl).trans ((fr1 Fm24 216 rfl).trans ((fr1 Fm12 216 rfl).trans (fr1 Fm3 216 rfl))))), (show (m32.1 217) = (m.1 217) from ((fr1 Fm32 217 rfl).trans ((fr1 Fm24 217 rfl).trans ((fr1 Fm12 217 rfl).trans (fr1 Fm3 217 rfl))))), (show (m32.1 223) = (m.1 223) from ((fr1 Fm32 223 rfl).trans ((fr1 Fm24 223 rfl).trans ((fr1 Fm12 223 rfl).trans (fr1 Fm3 223 rfl))))), (show (m32.1 219) = (m.1 219) from ((fr1 Fm32 219 rfl).trans ((fr1 Fm24 219 rfl).trans ((fr1 Fm12 219 rfl).trans (fr1 Fm3 219 rfl)))))]; exact pKP) (show SSp (m32.1 222) (m32.2 36) (m32.1 221) by rewrite [(show (m32.1 222) = (m.1 222) from ((fr1 Fm32 222 rfl).trans ((fr1 Fm24 222 rfl).trans ((fr1 Fm12 222 rfl).trans (fr1 Fm3 222 rfl)))))]; exact hSS) (show 0 ≤ s ∧ s ≤ 15 by omega) (show 0 ≤ v31 ∧ v31 ≤ 8 by omega)) (fun rr146 k147 => ?_)
          rcases k147 with ⟨m148, Tm148, Fm148, h149, h150, h151, rfl⟩ | ⟨xx154, m152, hx153, Tm152, Fm152, rfl⟩
          rotate_left
          · skip
            refine Or.inr ⟨_, _, _, _, rfl, ?_⟩
            exact Or.inr ⟨xx154, (mO m152 [] []), (hx153), Tm152, (fr_m (fr_s Fm152 (fr_m (fr_s Fm32 (fr_m (fr_s Fm24 (fr_m (fr_s Fm12 (fr_m (fr_s Fm3 (fr_m fr_0 rfl rfl) rfl rfl) rfl rfl) rfl rfl) rfl rfl) rfl rfl) rfl rfl) rfl rfl) rfl rfl) rfl rfl) rfl rfl), rfl⟩
          refine Or.inl ⟨_, _, _, _, rfl, ?_⟩
          refine K_nb (st' := []) rfl ?_
          have g155 : 0 ≤ m148.1 203 ∧ m148.1 203 ≤ 90 := Tm148.1 203
          have g156 : (-1) ≤ m148.1 206 ∧ m148.1 206 ≤ 65535 := Tm148.1 206
          have g157 : 0 ≤ m148.1 221 ∧ m148.1 221 ≤ 16 := Tm148.1 221
          replace h149 : KPp (m148.1 203) (m148.2 8) (m148.2 9) (m32.1 214) (m32.1 215) (m32.1 216) (m32.1 217) (m148.1 221) (m32.1 223) (m32.1 219) := h149
          rewrite [(show (m32.1 214) = (m.1 214) from ((fr1 Fm32 214 rfl).trans ((fr1 Fm24 214 rfl).trans ((fr1 Fm12 214 rfl).trans (fr1 Fm3 214 rfl))))), (show (m32.1 215) = (m.1 215) from ((fr1 Fm32 215 rfl).trans ((fr1 Fm24 215 rfl).trans ((fr1 Fm12 215 rfl).trans (fr1 Fm3 215 rfl))))), (show (m32.1 216) = (m.1 216) from ((fr1 Fm32 216 rfl).trans ((fr1 Fm24 216 rfl).trans ((fr1 Fm12 216 rfl).trans (fr1 Fm3 216 rfl))))), (show (m32.1 217) = (m.1 217) from ((fr1 Fm32 217 rfl).trans ((fr1 Fm24 217 rfl).trans ((fr1 Fm12 217 rfl).trans (fr1 Fm3 217 rfl))))), (show (m32.1 223) = (m.1 223) from ((fr1 Fm32 223 rfl).trans ((fr1 Fm24 223 rfl).trans ((fr1 Fm12 223 rfl).trans (fr1 Fm3 223 rfl))))), (show (m32.1 219) = (m.1 219) from ((fr1 Fm32 219 rfl).trans ((fr1 Fm24 219 rfl).trans ((fr1 Fm12 219 rfl).trans (fr1 Fm3 219 rfl)))))] at h149
          have pKP := h149
          replace h150 : SSp (m32.1 222) (m148.2 36) (m148.1 221) := h150
          rewrite [(show (m32.1 222) = (m.1 222) from ((fr1 Fm32 222 rfl).trans ((fr1 Fm24 222 rfl).trans ((fr1 Fm12 222 rfl).trans (fr1 Fm3 222 rfl)))))] at h150
          have hSS := h150
          replace h151 : (m32.1 221) ≤ (m148.1 221) := h151
          refine T_iinc 96 [(3, .int (i32 (v31 + 1))), (0, .ref 178), (1, .int (i32 s)), (2, .int (i32 ro))] rfl rfl (by decide) rfl rfl ?_
          refine T_goto 56 rfl (fun _ => rfl) ?_
          refine Tm_lv (a := [(0, .ref 178), (1, .int (i32 s)), (2, .int (i32 ro)), (3, .int (i32 (v31 + 1)))]) rfl rfl ⟨rfl, rfl, rfl, rfl, trivial⟩ ?_
          exact ih42 (v31 + 1) (mO m148 [] []) (r32 (by omega) (by omega)) Tm148 (fr_m (fr_s Fm148 (fr_m (fr_s Fm32 (fr_m fr_0 rfl rfl) rfl rfl) rfl rfl) rfl rfl) rfl rfl) (show 0 ≤ (v31 + 1) by omega) (show KPp (m148.1 203) (m148.2 8) (m148.2 9) (m.1 214) (m.1 215) (m.1 216) (m.1 217) (m148.1 221) (m.1 223) (m.1 219) by exact pKP) (show SSp (m.1 222) (m148.2 36) (m148.1 221) by exact hSS) (show 0 ≤ (v31 + 1) ∧ (v31 + 1) ≤ 9 by omega) (show 12 - (v31 + 1) < (n41 : Int) by omega)
  refine Tm_lv (a := [(0, .ref 178), (1, .int (i32 s)), (2, .int (i32 ro)), (3, .int (i32 0))]) rfl rfl ⟨rfl, rfl, rfl, rfl, trivial⟩ ?_
  exact L56_33 ((12 - (0 : Int) : Int) + 1).toNat 0 (mO m24 [] []) ⟨by decide, by decide⟩ Tm24 (fr_m fr_0 rfl rfl) (show 0 ≤ (0 : Int) by omega) (show KPp (m24.1 203) (m24.2 8) (m24.2 9) (m.1 214) (m.1 215) (m.1 216) (m.1 217) (m24.1 221) (m.1 223) (m.1 219) by rewrite [(show (m24.1 203) = (m.1 203) from ((fr1 Fm24 203 rfl).trans ((fr1 Fm12 203 rfl).trans (fr1 Fm3 203 rfl)))), (show (m24.2 8) = (m.2 8) from ((fr2 Fm24 8 rfl).trans ((fr2 Fm12 8 rfl).trans (fr2 Fm3 8 rfl)))), (show (m24.2 9) = (m.2 9) from ((fr2 Fm24 9 rfl).trans ((fr2 Fm12 9 rfl).trans (fr2 Fm3 9 rfl)))), (show (m24.1 221) = (m.1 221) from ((fr1 Fm24 221 rfl).trans ((fr1 Fm12 221 rfl).trans (fr1 Fm3 221 rfl))))]; exact pKP) (show SSp (m.1 222) (m24.2 36) (m24.1 221) by rewrite [(show (m24.2 36) = (m.2 36) from ((fr2 Fm24 36 rfl).trans ((fr2 Fm12 36 rfl).trans (fr2 Fm3 36 rfl)))), (show (m24.1 221) = (m.1 221) from ((fr1 Fm24 221 rfl).trans ((fr1 Fm12 221 rfl).trans (fr1 Fm3 221 rfl))))]; exact hSS) (show 0 ≤ (0 : Int) ∧ (0 : Int) ≤ 9 by omega) (show 12 - (0 : Int) < ((((12 - (0 : Int) : Int) + 1).toNat : Nat) : Int) by omega)
def fF_rd_state : List Nat := [203, 205, 206, 207, 208, 209, 210, 211, 212, 213, 220, 221, 222, 228, 229, 230, 231]
def fA_rd_state : List Nat := [6, 7, 8, 9, 18, 19, 20, 21, 22, 23, 24, 26, 27, 28, 29, 30, 31, 32, 33, 34, 35, 36, 37, 68, 69, 70]
def Q_rd_state (m : mR) (c : Nat → Option am_C) (N : Nat) : ag_Re af_T → Prop := fun R => (∃ (M : mR), KTy M ∧ fr fF_rd_state fA_rd_state m M ∧ (KPp (M.1 203) (M.2 8) (M.2 9) (m.1 214) (m.1 215) (m.1 216) (m.1 217) (M.1 221) (m.1 223) (m.1 219)) ∧ (SSp (M.1 222) (M.2 36) (M.1 221)) ∧ (NKp (M.2 18) (M.2 19)) ∧ R = (.inl (none), (khp M c, N), 0, 0)) ∨ (∃ (x : Nat) (M : mR), (x = 0) ∧ (KTy M) ∧ (fr fF_rd_state fA_rd_state m M) ∧ R = (.inr x, (khp M c, N), 1, 6))
set_option maxHeartbeats 3000000 in
theorem c_rd_state (w : wX) (m : mR) (c : Nat → Option am_C) (N D : Nat) (hD : 12 ≤ D) (hT : KTy m) (pKP : KPp (m.1 203) (m.2 8) (m.2 9) (m.1 214) (m.1 215) (m.1 216) (m.1 217) (m.1 221) (m.1 223) (m.1 219)) (hSS : SSp (m.1 222) (m.2 36) (m.1 221)) (hNK : NKp (m.2 18) (m.2 19)) : TC w D 87 [.ref 178] (khp m c, N) (Q_rd_state m c N) := by
  obtain ⟨D, rfl⟩ : ∃ k, D = k + 1 := ⟨D - 1, by omega⟩
  have f203 : 0 ≤ m.1 203 ∧ m.1 203 ≤ 90 := hT.1 203
  have f206 : (-1) ≤ m.1 206 ∧ m.1 206 ≤ 65535 := hT.1 206
  have f207 : 0 ≤ m.1 207 ∧ m.1 207 ≤ 4001 := hT.1 207
  have f213 : 0 ≤ m.1 213 ∧ m.1 213 ≤ 1 := hT.1 213
  have f221 : 0 ≤ m.1 221 ∧ m.1 221 ≤ 16 := hT.1 221
  have f222 : 0 ≤ m.1 222 ∧ m.1 222 ≤ 16 := hT.1 222
  have f214 : 0 ≤ m.1 214 ∧ m.1 214 ≤ 12 := hT.1 214
  have f215 : 0 ≤ m.1 215 ∧ m.1 215 ≤ 12 := hT.1 215
  have f216 : 0 ≤ m.1 216 ∧ m.1 216 ≤ 16 := hT.1 216
  have f217 : 0 ≤ m.1 217 ∧ m.1 217 ≤ 8 := hT.1 217
  have f219 : 0 ≤ m.1 219 ∧ m.1 219 ≤ 8 := hT.1 219
  have f223 : 0 ≤ m.1 223 ∧ m.1 223 ≤ 16 := hT.1 223
  refine Tc_of rfl ?_
  rw [show (khp m c, N) = (khp (mO m [] []) c, N) from by rw [mO_nil m]]
  show TT w D pm_87 (0, [(0, .ref 178)], [], (khp (mO m [] []) c, N), 0, 0) (Q_rd_state m c N)
  refine T_ld 1 (.ref 178) rfl (fun _ => rfl) ?_
  refine K_gf 4 (.ref 6) rfl rfl kd_178 rfl rfl rfl ?_
  refine T_callx 7 50 [.ref 6] [] rfl (fun _ => rfl) rfl rfl (c_tx_advance w (mO m [] []) c N D (by omega) hT ) (fun rr1 k2 => ?_)
  rcases k2 with ⟨m3, Tm3, Fm3, h4, rfl⟩ | ⟨xx7, m5, hx6, Tm5, Fm5, rfl⟩
  rotate_left
  · skip
    refine Or.inr ⟨_, _, _, _, rfl, ?_⟩
    exact Or.inr ⟨xx7, (mO m5 [] []), (hx6), Tm5, (fr_m (fr_s Fm5 (fr_m fr_0 rfl rfl) rfl rfl) rfl rfl), rfl⟩
  refine Or.inl ⟨_, _, _, _, rfl, ?_⟩
  refine K_nb (st' := []) rfl ?_
  have g8 : (-1) ≤ m3.1 206 ∧ m3.1 206 ≤ 65535 := Tm3.1 206
  have g9 : 0 ≤ m3.1 207 ∧ m3.1 207 ≤ 4001 := Tm3.1 207
  replace h4 : (m.1 213) = 0 := h4
  refine T_ld 8 (.ref 178) rfl (fun _ => rfl) ?_
  refine K_gf 11 (.ref 6) rfl rfl kd_178 rfl rfl rfl ?_
  refine K_gf 14 (.int (i32 (m3.1 207))) rfl rfl kd_6 rfl rfl rfl ?_
  refine T_sto 15 [(1, .int (i32 (m3.1 207))), (0, .ref 178)] rfl (fun _ => rfl) ?_
  have J104_12 : ∀ (v10 : Int) (m11 : mR), (R32 v10) → KTy m11 → fr [203, 205, 206, 207, 208, 209, 210, 211, 212, 221] [6, 7, 8, 9, 26, 29, 30, 35, 36] (mO m3 [] []) m11 → (KPp (m11.1 203) (m11.2 8) (m11.2 9) (m.1 214) (m.1 215) (m.1 216) (m.1 217) (m11.1 221) (m.1 223) (m.1 219)) → (SSp (m.1 222) (m11.2 36) (m11.1 221)) → (0 ≤ v10 ∧ v10 < (m11.1 221)) → ((m11.2 36) v10 = -1) → TT w D pm_87 (104, [(0, .ref 178), (1, .int (i32 (m3.1 207))), (2, .int (i32 v10))], [], (khp (mO m11 [] []) c, N), 0, 0) (Q_rd_state m c N) := by
    intro v10 m11 q17 Tm11 Fm11 ic13 ic14 ic15 ic16
    obtain ⟨q17a, q17b⟩ := id q17
    have q18_203 : 0 ≤ m11.1 203 ∧ m11.1 203 ≤ 90 := Tm11.1 203
    have q18_206 : (-1) ≤ m11.1 206 ∧ m11.1 206 ≤ 65535 := Tm11.1 206
    have q18_207 : 0 ≤ m11.1 207 ∧ m11.1 207 ≤ 4001 := Tm11.1 207
    have q18_221 : 0 ≤ m11.1 221 ∧ m11.1 221 ≤ 16 := Tm11.1 221
    have pKP := ic13
    have hSS := ic14
    have hSm := ic16
    have hSb := SS_b hSS (by omega) (by omega) hSm
    refine T_ld 105 (.ref 178) rfl (fun _ => rfl) ?_
    refine K_gf 108 (.ref 31) rfl rfl kd_178 rfl rfl rfl ?_
    refine T_ld 109 (.int (i32 v10)) rfl (fun _ => rfl) ?_
    refine T_ld 110 (.int (i32 (m3.1 207))) rfl (fun _ => rfl) ?_
    refine T_callx 113 89 [.ref 31, .int (i32 v10), .int (i32 (m3.1 207))] [] rfl (fun _ => rfl) rfl rfl (c_ss_stand w (mO m11 [] []) c N D (by omega) Tm11 v10 (m3.1 207) (r32 (by omega) (by omega)) (r32 (by omega) (by omega)) (show (m11.1 222) ≤ 15 by rewrite [(show (m11.1 222) = (m.1 222) from ((fr1 Fm11 222 rfl).trans (fr1 Fm3 222 rfl)))]; omega) (show 0 ≤ v10 ∧ v10 ≤ 15 by omega) (show 0 ≤ (m3.1 207) ∧ (m3.1 207) ≤ 4001 by omega)) (fun rr21 k22 => ?_)
    obtain ⟨m23, Tm23, Fm23, h24, h25, rfl⟩ := k22
    refine Or.inl ⟨_, _, _, _, rfl, ?_⟩
    refine K_nb (st' := []) rfl ?_
    have g26 : 0 ≤ m23.1 222 ∧ m23.1 222 ≤ 16 := Tm23.1 222
    replace h24 : (m23.1 222) = (m11.1 222) + 1 := h24
    rewrite [(show (m11.1 222) = (m.1 222) from ((fr1 Fm11 222 rfl).trans (fr1 Fm3 222 rfl)))] at h24
    replace h25 : (m23.2 36) = upI (m11.2 36) v10 (m3.1 207) := h25
    have hSt := h25
    have hSS : SSp (m23.1 222) (m23.2 36) (m11.1 221) := SS_st hSS (by omega) (by omega) hSm (by omega) hSt (by omega)
    refine T_ld 114 (.ref 178) rfl (fun _ => rfl) ?_
    refine K_gf 117 (.ref 6) rfl rfl kd_178 rfl rfl rfl ?_
    refine T_ld 119 (.int (i32 123)) rfl (fun _ => rfl) ?_
    refine T_callx 122 78 [.ref 6, .int (i32 123)] [] rfl (fun _ => rfl) rfl rfl (c_tx_expect w (mO m23 [] []) c N D (by omega) Tm23 123 ⟨by decide, by decide⟩) (fun rr27 k28 => ?_)
    rcases k28 with ⟨m29, Tm29, Fm29, h30, h31, rfl⟩ | ⟨xx34, m32, hx33, Tm32, Fm32, rfl⟩
    rotate_left
    · skip
      refine Or.inr ⟨_, _, _, _, rfl, ?_⟩
      exact Or.inr ⟨xx34, (mO m32 [] []), (hx33), Tm32, (fr_m (fr_s Fm32 (fr_m (fr_s Fm23 (fr_m (fr_s Fm11 (fr_m (fr_s Fm3 (fr_m fr_0 rfl rfl) rfl rfl) rfl rfl) rfl rfl) rfl rfl) rfl rfl) rfl rfl) rfl rfl) rfl rfl), rfl⟩
    refine Or.inl ⟨_, _, _, _, rfl, ?_⟩
    refine K_nb (st' := []) rfl ?_
    have g35 : (-1) ≤ m29.1 206 ∧ m29.1 206 ≤ 65535 := Tm29.1 206
    have g36 : 0 ≤ m29.1 207 ∧ m29.1 207 ≤ 4001 := Tm29.1 207
    replace h30 : (m23.1 206) = (123 : Int) := h30
    rewrite [(show (m23.1 206) = (m11.1 206) from (fr1 Fm23 206 rfl))] at h30
    replace h31 : (m23.1 213) = 0 := h31
    rewrite [(show (m23.1 213) = (m.1 213) from ((fr1 Fm23 213 rfl).trans ((fr1 Fm11 213 rfl).trans (fr1 Fm3 213 rfl))))] at h31
    refine T_ld 123 (.int (i32 0)) rfl (fun _ => rfl) ?_
    refine T_sto 124 [(3, .int (i32 0)), (0, .ref 178), (1, .int (i32 (m3.1 207))), (2, .int (i32 v10))] rfl (fun _ => rfl) ?_
    have L124_39 : ∀ (n45 : Nat) (v37 : Int) (m38 : mR), (R32 v37) → KTy m38 → fr [205, 206, 207, 208, 209, 210, 211, 212] [26, 27] (mO m29 [] []) m38 → (0 ≤ v37) → (0 ≤ v37 ∧ v37 ≤ 7) → 12 - v37 < (n45 : Int) → TT w D pm_87 (124, [(0, .ref 178), (2, .int (i32 v10)), (3, .int (i32 v37))], [], (khp (mO m38 [] []) c, N), 0, 0) (Q_rd_state m c N) := by
      intro n45
      induction n45 with
      | zero =>
        intro v37 m38 q42 Tm38 Fm38 ic40 ic41 hmu
        obtain ⟨q42a, q42b⟩ := id q42
        have q43_206 : (-1) ≤ m38.1 206 ∧ m38.1 206 ≤ 65535 := Tm38.1 206
        have q43_207 : 0 ≤ m38.1 207 ∧ m38.1 207 ≤ 4001 := Tm38.1 207
        exfalso
        omega
      | succ n45 ih =>
        intro v37 m38 q42 Tm38 Fm38 ic40 ic41 hmu
        obtain ⟨q42a, q42b⟩ := id q42
        have q43_206 : (-1) ≤ m38.1 206 ∧ m38.1 206 ≤ 65535 := Tm38.1 206
        have q43_207 : 0 ≤ m38.1 207 ∧ m38.1 207 ≤ 4001 := Tm38.1 207
        have ih46 := ih
        refine T_ld 125 (.int (i32 v37)) rfl (fun _ => rfl) ?_
        refine T_ld 127 (.int (i32 6)) rfl (fun _ => rfl) ?_
        refine T_icmp 155 130 rfl rfl rfl (r32 (by omega) (by omega)) ⟨by decide, by decide⟩ (fun (h47 : (6 : Int) < v37) => ?_) (fun (h47 : ¬ ((6 : Int) < v37)) => ?_)
        · skip
          refine T_ld 156 (.ref 178) rfl (fun _ => rfl) ?_
          refine K_gf 159 (.ref 6) rfl rfl kd_178 rfl rfl rfl ?_
          refine K_gf 162 (.int (i32 (m38.1 206))) rfl rfl kd_6 rfl rfl rfl ?_
          refine T_ld 165 (.int (i32 307)) rfl (fun _ => rfl) ?_
          refine T_icmp 176 168 rfl rfl rfl (r32 (by omega) (by omega)) ⟨by decide, by decide⟩ (fun (h48 : (m38.1 206) ≠ 307) => ?_) (fun (h48 : ¬ ((m38.1 206) ≠ 307)) => ?_)
          · skip
            refine T_ld 177 (.ref 178) rfl (fun _ => rfl) ?_
            refine K_gf 180 (.ref 6) rfl rfl kd_178 rfl rfl rfl ?_
            refine T_ld 183 (.int (i32 306)) rfl (fun _ => rfl) ?_
            refine T_callx 186 78 [.ref 6, .int (i32 306)] [] rfl (fun _ => rfl) rfl rfl (c_tx_expect w (mO m38 [] []) c N D (by omega) Tm38 306 ⟨by decide, by decide⟩) (fun rr49 k50 => ?_)
            rcases k50 with ⟨m51, Tm51, Fm51, h52, h53, rfl⟩ | ⟨xx56, m54, hx55, Tm54, Fm54, rfl⟩
            rotate_left
            · skip
              refine Or.inr ⟨_, _, _, _, rfl, ?_⟩
              exact Or.inr ⟨xx56, (mO m54 [] []), (hx55), Tm54, (fr_m (fr_s Fm54 (fr_m (fr_s Fm38 (fr_m (fr_s Fm29 (fr_m (fr_s Fm23 (fr_m (fr_s Fm11 (fr_m (fr_s Fm3 (fr_m fr_0 rfl rfl) rfl rfl) rfl rfl) rfl rfl) rfl rfl) rfl rfl) rfl rfl) rfl rfl) rfl rfl) rfl rfl) rfl rfl) rfl rfl) rfl rfl), rfl⟩
            refine Or.inl ⟨_, _, _, _, rfl, ?_⟩
            refine K_nb (st' := []) rfl ?_
            have g57 : (-1) ≤ m51.1 206 ∧ m51.1 206 ≤ 65535 := Tm51.1 206
            have g58 : 0 ≤ m51.1 207 ∧ m51.1 207 ≤ 4001 := Tm51.1 207
            replace h52 : (m38.1 206) = (306 : Int) := h52
            replace h53 : (m38.1 213) = 0 := h53
            rewrite [(show (m38.1 213) = (m.1 213) from ((fr1 Fm38 213 rfl).trans ((fr1 Fm29 213 rfl).trans ((fr1 Fm23 213 rfl).trans ((fr1 Fm11 213 rfl).trans (fr1 Fm3 213 rfl))))))] at h53
            refine T_ld 187 (.ref 178) rfl (fun _ => rfl) ?_
            refine K_gf 190 (.ref 31) rfl rfl kd_178 rfl rfl rfl ?_
            refine K_gf 193 (.ref 40) rfl rfl kd_31 rfl rfl rfl ?_
            refine T_ld 194 (.int (i32 v10)) rfl (fun _ => rfl) ?_
            refine T_ld 195 (.ref 178) rfl (fun _ => rfl) ?_
            refine T_callx 198 117 [.ref 178] [.int (i32 v10), .ref 40] rfl (fun _ => rfl) rfl rfl (c_rd_goal w (mO m51 [] []) c N D (by omega) Tm51 (show KPp (m51.1 203) (m51.2 8) (m51.2 9) (m51.1 214) (m51.1 215) (m51.1 216) (m51.1 217) (m51.1 221) (m51.1 223) (m51.1 219) by rewrite [(show (m51.1 203) = (m11.1 203) from ((fr1 Fm51 203 rfl).trans ((fr1 Fm38 203 rfl).trans ((fr1 Fm29 203 rfl).trans (fr1 Fm23 203 rfl))))), (show (m51.2 8) = (m11.2 8) from ((fr2 Fm51 8 rfl).trans ((fr2 Fm38 8 rfl).trans ((fr2 Fm29 8 rfl).trans (fr2 Fm23 8 rfl))))), (show (m51.2 9) = (m11.2 9) from ((fr2 Fm51 9 rfl).trans ((fr2 Fm38 9 rfl).trans ((fr2 Fm29 9 rfl).trans (fr2 Fm23 9 rfl))))), (show (m51.1 214) = (m.1 214) from ((fr1 Fm51 214 rfl).trans ((fr1 Fm38 214 rfl).trans ((fr1 Fm29 214 rfl).trans ((fr1 Fm23 214 rfl).trans ((fr1 Fm11 214 rfl).trans (fr1 Fm3 214 rfl))))))), (show (m51.1 215) = (m.1 215) from ((fr1 Fm51 215 rfl).trans ((fr1 Fm38 215 rfl).trans ((fr1 Fm29 215 rfl).trans ((fr1 Fm23 215 rfl).trans ((fr1 Fm11 215 rfl).trans (fr1 Fm3 215 rfl))))))), (show (m51.1 216) = (m.1 216) from ((fr1 Fm51 216 rfl).trans ((fr1 Fm38 216 rfl).trans ((fr1 Fm29 216 rfl).trans ((fr1 Fm23 216 rfl).trans ((fr1 Fm11 216 rfl).trans (fr1 Fm3 216 rfl))))))), (show (m51.1 217) = (m.1 217) from ((fr1 Fm51 217 rfl).trans ((fr1 Fm38 217 rfl).trans ((fr1 Fm29 217 rfl).trans ((fr1 Fm23 217 rfl).trans ((fr1 Fm11 217 rfl).trans (fr1 Fm3 217 rfl))))))), (show (m51.1 221) = (m11.1 221) from ((fr1 Fm51 221 rfl).trans ((fr1 Fm38 221 rfl).trans ((fr1 Fm29 221 rfl).trans (fr1 Fm23 221 rfl))))), (show (m51.1 223) = (m.1 223) from ((fr1 Fm51 223 rfl).trans ((fr1 Fm38 223 rfl).trans ((fr1 Fm29 223 rfl).trans ((fr1 Fm23 223 rfl).trans ((fr1 Fm11 223 rfl).trans (fr1 Fm3 223 rfl))))))), (show (m51.1 219) = (m.1 219) from ((fr1 Fm51 219 rfl).trans ((fr1 Fm38 219 rfl).trans ((fr1 Fm29 219 rfl).trans ((fr1 Fm23 219 rfl).trans ((fr1 Fm11 219 rfl).trans (fr1 Fm3 219 rfl)))))))]; exact pKP) (show SSp (m51.1 222) (m51.2 36) (m51.1 221) by rewrite [(show (m51.1 222) = (m23.1 222) from ((fr1 Fm51 222 rfl).trans ((fr1 Fm38 222 rfl).trans (fr1 Fm29 222 rfl)))), (show (m51.2 36) = (m23.2 36) from ((fr2 Fm51 36 rfl).trans ((fr2 Fm38 36 rfl).trans (fr2 Fm29 36 rfl)))), (show (m51.1 221) = (m11.1 221) from ((fr1 Fm51 221 rfl).trans ((fr1 Fm38 221 rfl).trans ((fr1 Fm29 221 rfl).trans (fr1 Fm23 221 rfl)))))]; exact hSS)) (fun rr59 k60 => ?_)
            rcases k60 with ⟨m61, go, Tm61, Fm61, g62, h63, h64, h65, rfl⟩ | ⟨xx68, m66, hx67, Tm66, Fm66, rfl⟩
            rotate_left
            · skip
              refine Or.inr ⟨_, _, _, _, rfl, ?_⟩
              exact Or.inr ⟨xx68, (mO m66 [] []), (hx67), Tm66, (fr_m (fr_s Fm66 (fr_m (fr_s Fm51 (fr_m (fr_s Fm38 (fr_m (fr_s Fm29 (fr_m (fr_s Fm23 (fr_m (fr_s Fm11 (fr_m (fr_s Fm3 (fr_m fr_0 rfl rfl) rfl rfl) rfl rfl) rfl rfl) rfl rfl) rfl rfl) rfl rfl) rfl rfl) rfl rfl) rfl rfl) rfl rfl) rfl rfl) rfl rfl) rfl rfl) rfl rfl), rfl⟩
            refine Or.inl ⟨_, _, _, _, rfl, ?_⟩
            refine K_nb (st' := [.int (i32 go), .int (i32 v10), .ref 40]) rfl ?_
            obtain ⟨g62a, g62b⟩ := g62
            have g69 : 0 ≤ m61.1 203 ∧ m61.1 203 ≤ 90 := Tm61.1 203
            have g70 : (-1) ≤ m61.1 206 ∧ m61.1 206 ≤ 65535 := Tm61.1 206
            have g71 : 0 ≤ m61.1 207 ∧ m61.1 207 ≤ 4001 := Tm61.1 207
            have g72 : 0 ≤ m61.1 221 ∧ m61.1 221 ≤ 16 := Tm61.1 221
            replace h63 : KPp (m61.1 203) (m61.2 8) (m61.2 9) (m51.1 214) (m51.1 215) (m51.1 216) (m51.1 217) (m61.1 221) (m51.1 223) (m51.1 219) := h63
            rewrite [(show (m51.1 214) = (m.1 214) from ((fr1 Fm51 214 rfl).trans ((fr1 Fm38 214 rfl).trans ((fr1 Fm29 214 rfl).trans ((fr1 Fm23 214 rfl).trans ((fr1 Fm11 214 rfl).trans (fr1 Fm3 214 rfl))))))), (show (m51.1 215) = (m.1 215) from ((fr1 Fm51 215 rfl).trans ((fr1 Fm38 215 rfl).trans ((fr1 Fm29 215 rfl).trans ((fr1 Fm23 215 rfl).trans ((fr1 Fm11 215 rfl).trans (fr1 Fm3 215 rfl))))))), (show (m51.1 216) = (m.1 216) from ((fr1 Fm51 216 rfl).trans ((fr1 Fm38 216 rfl).trans ((fr1 Fm29 216 rfl).trans ((fr1 Fm23 216 rfl).trans ((fr1 Fm11 216 rfl).trans (fr1 Fm3 216 rfl))))))), (show (m51.1 217) = (m.1 217) from ((fr1 Fm51 217 rfl).trans ((fr1 Fm38 217 rfl).trans ((fr1 Fm29 217 rfl).trans ((fr1 Fm23 217 rfl).trans ((fr1 Fm11 217 rfl).trans (fr1 Fm3 217 rfl))))))), (show (m51.1 223) = (m.1 223) from ((fr1 Fm51 223 rfl).trans ((fr1 Fm38 223 rfl).trans ((fr1 Fm29 223 rfl).trans ((fr1 Fm23 223 rfl).trans ((fr1 Fm11 223 rfl).trans (fr1 Fm3 223 rfl))))))), (show (m51.1 219) = (m.1 219) from ((fr1 Fm51 219 rfl).trans ((fr1 Fm38 219 rfl).trans ((fr1 Fm29 219 rfl).trans ((fr1 Fm23 219 rfl).trans ((fr1 Fm11 219 rfl).trans (fr1 Fm3 219 rfl)))))))] at h63
            have pKP := h63
            replace h64 : SSp (m51.1 222) (m61.2 36) (m61.1 221) := h64
            rewrite [(show (m51.1 222) = (m23.1 222) from ((fr1 Fm51 222 rfl).trans ((fr1 Fm38 222 rfl).trans (fr1 Fm29 222 rfl))))] at h64
            have hSS := h64
            replace h65 : (m51.1 221) ≤ (m61.1 221) := h65
            rewrite [(show (m51.1 221) = (m11.1 221) from ((fr1 Fm51 221 rfl).trans ((fr1 Fm38 221 rfl).trans ((fr1 Fm29 221 rfl).trans (fr1 Fm23 221 rfl)))))] at h65
            have G73 : ∀ j, 0 ≤ (upI (m.2 34) v10 go) j ∧ (upI (m.2 34) v10 go) j ≤ 17 := upI_rg (hT.2.1 34) ⟨by omega, by omega⟩
            refine K_iast (a' := [(34, upI (m.2 34) v10 go)]) 199 34 (m.2 34) rfl rfl rfl (by omega) (show v10 < (16 : Int) by omega) (show (m61.2 34) = (m.2 34) from ((fr2 Fm61 34 rfl).trans ((fr2 Fm51 34 rfl).trans ((fr2 Fm38 34 rfl).trans ((fr2 Fm29 34 rfl).trans ((fr2 Fm23 34 rfl).trans ((fr2 Fm11 34 rfl).trans (fr2 Fm3 34 rfl)))))))) rfl ?_
            refine T_ld 200 (.ref 178) rfl (fun _ => rfl) ?_
            refine K_gf 203 (.ref 6) rfl rfl kd_178 rfl rfl rfl ?_
            refine T_ld 205 (.int (i32 59)) rfl (fun _ => rfl) ?_
            refine T_callx 208 78 [.ref 6, .int (i32 59)] [] rfl (fun _ => rfl) rfl rfl (c_tx_expect w (mO m61 [] [(34, upI (m.2 34) v10 go)]) c N D (by omega) (KTy_mO Tm61 rfl rfl trivial ⟨G73, trivial⟩) 59 ⟨by decide, by decide⟩) (fun rr74 k75 => ?_)
            rcases k75 with ⟨m76, Tm76, Fm76, h77, h78, rfl⟩ | ⟨xx81, m79, hx80, Tm79, Fm79, rfl⟩
            rotate_left
            · skip
              refine Or.inr ⟨_, _, _, _, rfl, ?_⟩
              exact Or.inr ⟨xx81, (mO m79 [] []), (hx80), Tm79, (fr_m (fr_s Fm79 (fr_m (fr_s Fm61 (fr_m (fr_s Fm51 (fr_m (fr_s Fm38 (fr_m (fr_s Fm29 (fr_m (fr_s Fm23 (fr_m (fr_s Fm11 (fr_m (fr_s Fm3 (fr_m fr_0 rfl rfl) rfl rfl) rfl rfl) rfl rfl) rfl rfl) rfl rfl) rfl rfl) rfl rfl) rfl rfl) rfl rfl) rfl rfl) rfl rfl) rfl rfl) rfl rfl) rfl rfl) rfl rfl) rfl rfl), rfl⟩
            refine Or.inl ⟨_, _, _, _, rfl, ?_⟩
            refine K_nb (st' := []) rfl ?_
            have g82 : (-1) ≤ m76.1 206 ∧ m76.1 206 ≤ 65535 := Tm76.1 206
            have g83 : 0 ≤ m76.1 207 ∧ m76.1 207 ≤ 4001 := Tm76.1 207
            replace h77 : (m61.1 206) = (59 : Int) := h77
            replace h78 : (m61.1 213) = 0 := h78
            rewrite [(show (m61.1 213) = (m.1 213) from ((fr1 Fm61 213 rfl).trans ((fr1 Fm51 213 rfl).trans ((fr1 Fm38 213 rfl).trans ((fr1 Fm29 213 rfl).trans ((fr1 Fm23 213 rfl).trans ((fr1 Fm11 213 rfl).trans (fr1 Fm3 213 rfl))))))))] at h78
            refine T_ld 209 (.ref 178) rfl (fun _ => rfl) ?_
            refine K_gf 212 (.ref 6) rfl rfl kd_178 rfl rfl rfl ?_
            refine T_ld 214 (.int (i32 125)) rfl (fun _ => rfl) ?_
            refine T_callx 217 78 [.ref 6, .int (i32 125)] [] rfl (fun _ => rfl) rfl rfl (c_tx_expect w (mO m76 [] []) c N D (by omega) Tm76 125 ⟨by decide, by decide⟩) (fun rr84 k85 => ?_)
            rcases k85 with ⟨m86, Tm86, Fm86, h87, h88, rfl⟩ | ⟨xx91, m89, hx90, Tm89, Fm89, rfl⟩
            rotate_left
            · skip
              refine Or.inr ⟨_, _, _, _, rfl, ?_⟩
              exact Or.inr ⟨xx91, (mO m89 [] []), (hx90), Tm89, (fr_m (fr_s Fm89 (fr_m (fr_s Fm76 (fr_m (fr_s Fm61 (fr_m (fr_s Fm51 (fr_m (fr_s Fm38 (fr_m (fr_s Fm29 (fr_m (fr_s Fm23 (fr_m (fr_s Fm11 (fr_m (fr_s Fm3 (fr_m fr_0 rfl rfl) rfl rfl) rfl rfl) rfl rfl) rfl rfl) rfl rfl) rfl rfl) rfl rfl) rfl rfl) rfl rfl) rfl rfl) rfl rfl) rfl rfl) rfl rfl) rfl rfl) rfl rfl) rfl rfl) rfl rfl) rfl rfl), rfl⟩
            refine Or.inl ⟨_, _, _, _, rfl, ?_⟩
            refine K_nb (st' := []) rfl ?_
            have g92 : (-1) ≤ m86.1 206 ∧ m86.1 206 ≤ 65535 := Tm86.1 206
            have g93 : 0 ≤ m86.1 207 ∧ m86.1 207 ≤ 4001 := Tm86.1 207
            replace h87 : (m76.1 206) = (125 : Int) := h87
            replace h88 : (m76.1 213) = 0 := h88
            rewrite [(show (m76.1 213) = (m.1 213) from ((fr1 Fm76 213 rfl).trans ((fr1 Fm61 213 rfl).trans ((fr1 Fm51 213 rfl).trans ((fr1 Fm38 213 rfl).trans ((fr1 Fm29 213 rfl).trans ((fr1 Fm23 213 rfl).trans ((fr1 Fm11 213 rfl).trans (fr1 Fm3 213 rfl)))))))))] at h88
            refine T_ret rfl (fun _ => rfl) ?_
            exact Or.inl ⟨(mO m86 [] []), Tm86, (fr_m (fr_s Fm86 (fr_m (fr_s Fm76 (fr_m (fr_s Fm61 (fr_m (fr_s Fm51 (fr_m (fr_s Fm38 (fr_m (fr_s Fm29 (fr_m (fr_s Fm23 (fr_m (fr_s Fm11 (fr_m (fr_s Fm3 (fr_m fr_0 rfl rfl) rfl rfl) rfl rfl) rfl rfl) rfl rfl) rfl rfl) rfl rfl) rfl rfl) rfl rfl) rfl rfl) rfl rfl) rfl rfl) rfl rfl) rfl rfl) rfl rfl) rfl rfl) rfl rfl) rfl rfl) rfl rfl), (show KPp (m86.1 203) (m86.2 8) (m86.2 9) (m.1 214) (m.1 215) (m.1 216) (m.1 217) (m86.1 221) (m.1 223) (m.1 219) by rewrite [(show (m86.1 203) = (m61.1 203) from ((fr1 Fm86 203 rfl).trans (fr1 Fm76 203 rfl))), (show (m86.2 8) = (m61.2 8) from ((fr2 Fm86 8 rfl).trans (fr2 Fm76 8 rfl))), (show (m86.2 9) = (m61.2 9) from ((fr2 Fm86 9 rfl).trans (fr2 Fm76 9 rfl))), (show (m86.1 221) = (m61.1 221) from ((fr1 Fm86 221 rfl).trans (fr1 Fm76 221 rfl)))]; first | (exact pKP) | (exfalso; omega)), (show SSp (m86.1 222) (m86.2 36) (m86.1 221) by rewrite [(show (m86.1 222) = (m23.1 222) from ((fr1 Fm86 222 rfl).trans ((fr1 Fm76 222 rfl).trans ((fr1 Fm61 222 rfl).trans ((fr1 Fm51 222 rfl).trans ((fr1 Fm38 222 rfl).trans (fr1 Fm29 222 rfl))))))), (show (m86.2 36) = (m61.2 36) from ((fr2 Fm86 36 rfl).trans (fr2 Fm76 36 rfl))), (show (m86.1 221) = (m61.1 221) from ((fr1 Fm86 221 rfl).trans (fr1 Fm76 221 rfl)))]; first | (exact hSS) | (exfalso; omega)), (show NKp (m86.2 18) (m86.2 19) by rewrite [(show (m86.2 18) = (m.2 18) from ((fr2 Fm86 18 rfl).trans ((fr2 Fm76 18 rfl).trans ((fr2 Fm61 18 rfl).trans ((fr2 Fm51 18 rfl).trans ((fr2 Fm38 18 rfl).trans ((fr2 Fm29 18 rfl).trans ((fr2 Fm23 18 rfl).trans ((fr2 Fm11 18 rfl).trans (fr2 Fm3 18 rfl)))))))))), (show (m86.2 19) = (m.2 19) from ((fr2 Fm86 19 rfl).trans ((fr2 Fm76 19 rfl).trans ((fr2 Fm61 19 rfl).trans ((fr2 Fm51 19 rfl).trans ((fr2 Fm38 19 rfl).trans ((fr2 Fm29 19 rfl).trans ((fr2 Fm23 19 rfl).trans ((fr2 Fm11 19 rfl).trans (fr2 Fm3 19 rfl))))))))))]; first | (exact hNK) | (exfalso; omega)), rfl⟩
          · skip
            refine T_ld 169 (.ref 178) rfl (fun _ => rfl) ?_
            refine T_ld 170 (.int (i32 v10)) rfl (fun _ => rfl) ?_
            refine T_callx 173 91 [.ref 178, .int (i32 v10)] [] rfl (fun _ => rfl) rfl rfl (c_rd_select w (mO m38 [] []) c N D (by omega) Tm38 v10 (r32 (by omega) (by omega)) (show KPp (m38.1 203) (m38.2 8) (m38.2 9) (m38.1 214) (m38.1 215) (m38.1 216) (m38.1 217) (m38.1 221) (m38.1 223) (m38.1 219) by rewrite [(show (m38.1 203) = (m11.1 203) from ((fr1 Fm38 203 rfl).trans ((fr1 Fm29 203 rfl).trans (fr1 Fm23 203 rfl)))), (show (m38.2 8) = (m11.2 8) from ((fr2 Fm38 8 rfl).trans ((fr2 Fm29 8 rfl).trans (fr2 Fm23 8 rfl)))), (show (m38.2 9) = (m11.2 9) from ((fr2 Fm38 9 rfl).trans ((fr2 Fm29 9 rfl).trans (fr2 Fm23 9 rfl)))), (show (m38.1 214) = (m.1 214) from ((fr1 Fm38 214 rfl).trans ((fr1 Fm29 214 rfl).trans ((fr1 Fm23 214 rfl).trans ((fr1 Fm11 214 rfl).trans (fr1 Fm3 214 rfl)))))), (show (m38.1 215) = (m.1 215) from ((fr1 Fm38 215 rfl).trans ((fr1 Fm29 215 rfl).trans ((fr1 Fm23 215 rfl).trans ((fr1 Fm11 215 rfl).trans (fr1 Fm3 215 rfl)))))), (show (m38.1 216) = (m.1 216) from ((fr1 Fm38 216 rfl).trans ((fr1 Fm29 216 rfl).trans ((fr1 Fm23 216 rfl).trans ((fr1 Fm11 216 rfl).trans (fr1 Fm3 216 rfl)))))), (show (m38.1 217) = (m.1 217) from ((fr1 Fm38 217 rfl).trans ((fr1 Fm29 217 rfl).trans ((fr1 Fm23 217 rfl).trans ((fr1 Fm11 217 rfl).trans (fr1 Fm3 217 rfl)))))), (show (m38.1 221) = (m11.1 221) from ((fr1 Fm38 221 rfl).trans ((fr1 Fm29 221 rfl).trans (fr1 Fm23 221 rfl)))), (show (m38.1 223) = (m.1 223) from ((fr1 Fm38 223 rfl).trans ((fr1 Fm29 223 rfl).trans ((fr1 Fm23 223 rfl).trans ((fr1 Fm11 223 rfl).trans (fr1 Fm3 223 rfl)))))), (show (m38.1 219) = (m.1 219) from ((fr1 Fm38 219 rfl).trans ((fr1 Fm29 219 rfl).trans ((fr1 Fm23 219 rfl).trans ((fr1 Fm11 219 rfl).trans (fr1 Fm3 219 rfl))))))]; exact pKP) (show SSp (m38.1 222) (m38.2 36) (m38.1 221) by rewrite [(show (m38.1 222) = (m23.1 222) from ((fr1 Fm38 222 rfl).trans (fr1 Fm29 222 rfl))), (show (m38.2 36) = (m23.2 36) from ((fr2 Fm38 36 rfl).trans (fr2 Fm29 36 rfl))), (show (m38.1 221) = (m11.1 221) from ((fr1 Fm38 221 rfl).trans ((fr1 Fm29 221 rfl).trans (fr1 Fm23 221 rfl))))]; exact hSS) (show NKp (m38.2 18) (m38.2 19) by rewrite [(show (m38.2 18) = (m.2 18) from ((fr2 Fm38 18 rfl).trans ((fr2 Fm29 18 rfl).trans ((fr2 Fm23 18 rfl).trans ((fr2 Fm11 18 rfl).trans (fr2 Fm3 18 rfl)))))), (show (m38.2 19) = (m.2 19) from ((fr2 Fm38 19 rfl).trans ((fr2 Fm29 19 rfl).trans ((fr2 Fm23 19 rfl).trans ((fr2 Fm11 19 rfl).trans (fr2 Fm3 19 rfl))))))]; exact hNK) (show 0 ≤ v10 ∧ v10 ≤ 15 by omega)) (fun rr94 k95 => ?_)
            rcases k95 with ⟨m96, Tm96, Fm96, h97, h98, h99, rfl⟩ | ⟨xx102, m100, hx101, Tm100, Fm100, rfl⟩
            rotate_left
            · skip
              refine Or.inr ⟨_, _, _, _, rfl, ?_⟩
              exact Or.inr ⟨xx102, (mO m100 [] []), (hx101), Tm100, (fr_m (fr_s Fm100 (fr_m (fr_s Fm38 (fr_m (fr_s Fm29 (fr_m (fr_s Fm23 (fr_m (fr_s Fm11 (fr_m (fr_s Fm3 (fr_m fr_0 rfl rfl) rfl rfl) rfl rfl) rfl rfl) rfl rfl) rfl rfl) rfl rfl) rfl rfl) rfl rfl) rfl rfl) rfl rfl) rfl rfl) rfl rfl), rfl⟩
            refine Or.inl ⟨_, _, _, _, rfl, ?_⟩
            refine K_nb (st' := []) rfl ?_
            have g103 : 0 ≤ m96.1 203 ∧ m96.1 203 ≤ 90 := Tm96.1 203
            have g104 : (-1) ≤ m96.1 206 ∧ m96.1 206 ≤ 65535 := Tm96.1 206
            have g105 : 0 ≤ m96.1 207 ∧ m96.1 207 ≤ 4001 := Tm96.1 207
            have g106 : 0 ≤ m96.1 213 ∧ m96.1 213 ≤ 1 := Tm96.1 213
            have g107 : 0 ≤ m96.1 221 ∧ m96.1 221 ≤ 16 := Tm96.1 221
            replace h97 : KPp (m96.1 203) (m96.2 8) (m96.2 9) (m38.1 214) (m38.1 215) (m38.1 216) (m38.1 217) (m96.1 221) (m38.1 223) (m38.1 219) := h97
            rewrite [(show (m38.1 214) = (m.1 214) from ((fr1 Fm38 214 rfl).trans ((fr1 Fm29 214 rfl).trans ((fr1 Fm23 214 rfl).trans ((fr1 Fm11 214 rfl).trans (fr1 Fm3 214 rfl)))))), (show (m38.1 215) = (m.1 215) from ((fr1 Fm38 215 rfl).trans ((fr1 Fm29 215 rfl).trans ((fr1 Fm23 215 rfl).trans ((fr1 Fm11 215 rfl).trans (fr1 Fm3 215 rfl)))))), (show (m38.1 216) = (m.1 216) from ((fr1 Fm38 216 rfl).trans ((fr1 Fm29 216 rfl).trans ((fr1 Fm23 216 rfl).trans ((fr1 Fm11 216 rfl).trans (fr1 Fm3 216 rfl)))))), (show (m38.1 217) = (m.1 217) from ((fr1 Fm38 217 rfl).trans ((fr1 Fm29 217 rfl).trans ((fr1 Fm23 217 rfl).trans ((fr1 Fm11 217 rfl).trans (fr1 Fm3 217 rfl)))))), (show (m38.1 223) = (m.1 223) from ((fr1 Fm38 223 rfl).trans ((fr1 Fm29 223 rfl).trans ((fr1 Fm23 223 rfl).trans ((fr1 Fm11 223 rfl).trans (fr1 Fm3 223 rfl)))))), (show (m38.1 219) = (m.1 219) from ((fr1 Fm38 219 rfl).trans ((fr1 Fm29 219 rfl).trans ((fr1 Fm23 219 rfl).trans ((fr1 Fm11 219 rfl).trans (fr1 Fm3 219 rfl))))))] at h97
            have pKP := h97
            replace h98 : SSp (m38.1 222) (m96.2 36) (m96.1 221) := h98
            rewrite [(show (m38.1 222) = (m23.1 222) from ((fr1 Fm38 222 rfl).trans (fr1 Fm29 222 rfl)))] at h98
            have hSS := h98
            replace h99 : NKp (m96.2 18) (m96.2 19) := h99
            have hNK := h99
            refine T_goto 208 rfl (fun _ => rfl) ?_
            refine T_ld 209 (.ref 178) rfl (fun _ => rfl) ?_
            refine K_gf 212 (.ref 6) rfl rfl kd_178 rfl rfl rfl ?_
            refine T_ld 214 (.int (i32 125)) rfl (fun _ => rfl) ?_
            refine T_callx 217 78 [.ref 6, .int (i32 125)] [] rfl (fun _ => rfl) rfl rfl (c_tx_expect w (mO m96 [] []) c N D (by omega) Tm96 125 ⟨by decide, by decide⟩) (fun rr108 k109 => ?_)
            rcases k109 with ⟨m110, Tm110, Fm110, h111, h112, rfl⟩ | ⟨xx115, m113, hx114, Tm113, Fm113, rfl⟩
            rotate_left
            · skip
              refine Or.inr ⟨_, _, _, _, rfl, ?_⟩
              exact Or.inr ⟨xx115, (mO m113 [] []), (hx114), Tm113, (fr_m (fr_s Fm113 (fr_m (fr_s Fm96 (fr_m (fr_s Fm38 (fr_m (fr_s Fm29 (fr_m (fr_s Fm23 (fr_m (fr_s Fm11 (fr_m (fr_s Fm3 (fr_m fr_0 rfl rfl) rfl rfl) rfl rfl) rfl rfl) rfl rfl) rfl rfl) rfl rfl) rfl rfl) rfl rfl) rfl rfl) rfl rfl) rfl rfl) rfl rfl) rfl rfl) rfl rfl), rfl⟩
            refine Or.inl ⟨_, _, _, _, rfl, ?_⟩
            refine K_nb (st' := []) rfl ?_
            have g116 : (-1) ≤ m110.1 206 ∧ m110.1 206 ≤ 65535 := Tm110.1 206
            have g117 : 0 ≤ m110.1 207 ∧ m110.1 207 ≤ 4001 := Tm110.1 207
            replace h111 : (m96.1 206) = (125 : Int) := h111
            replace h112 : (m96.1 213) = 0 := h112
            refine T_ret rfl (fun _ => rfl) ?_
            exact Or.inl ⟨(mO m110 [] []), Tm110, (fr_m (fr_s Fm110 (fr_m (fr_s Fm96 (fr_m (fr_s Fm38 (fr_m (fr_s Fm29 (fr_m (fr_s Fm23 (fr_m (fr_s Fm11 (fr_m (fr_s Fm3 (fr_m fr_0 rfl rfl) rfl rfl) rfl rfl) rfl rfl) rfl rfl) rfl rfl) rfl rfl) rfl rfl) rfl rfl) rfl rfl) rfl rfl) rfl rfl) rfl rfl) rfl rfl) rfl rfl), (show KPp (m110.1 203) (m110.2 8) (m110.2 9) (m.1 214) (m.1 215) (m.1 216) (m.1 217) (m110.1 221) (m.1 223) (m.1 219) by rewrite [(show (m110.1 203) = (m96.1 203) from (fr1 Fm110 203 rfl)), (show (m110.2 8) = (m96.2 8) from (fr2 Fm110 8 rfl)), (show (m110.2 9) = (m96.2 9) from (fr2 Fm110 9 rfl)), (show (m110.1 221) = (m96.1 221) from (fr1 Fm110 221 rfl))]; first | (exact pKP) | (exfalso; omega)), (show SSp (m110.1 222) (m110.2 36) (m110.1 221) by rewrite [(show (m110.1 222) = (m23.1 222) from ((fr1 Fm110 222 rfl).trans ((fr1 Fm96 222 rfl).trans ((fr1 Fm38 222 rfl).trans (fr1 Fm29 222 rfl))))), (show (m110.2 36) = (m96.2 36) from (fr2 Fm110 36 rfl)), (show (m110.1 221) = (m96.1 221) from (fr1 Fm110 221 rfl))]; first | (exact hSS) | (exfalso; omega)), (show NKp (m110.2 18) (m110.2 19) by rewrite [(show (m110.2 18) = (m96.2 18) from (fr2 Fm110 18 rfl)), (show (m110.2 19) = (m96.2 19) from (fr2 Fm110 19 rfl))]; first | (exact hNK) | (exfalso; omega)), rfl⟩
        · skip
          refine T_ld 131 (.ref 178) rfl (fun _ => rfl) ?_
          refine K_gf 134 (.ref 6) rfl rfl kd_178 rfl rfl rfl ?_
          refine K_gf 137 (.int (i32 (m38.1 206))) rfl rfl kd_6 rfl rfl rfl ?_
          refine T_ld 140 (.int (i32 305)) rfl (fun _ => rfl) ?_
          refine T_icmp 155 143 rfl rfl rfl (r32 (by omega) (by omega)) ⟨by decide, by decide⟩ (fun (h118 : (m38.1 206) ≠ 305) => ?_) (fun (h118 : ¬ ((m38.1 206) ≠ 305)) => ?_)
          · skip
            refine T_ld 156 (.ref 178) rfl (fun _ => rfl) ?_
            refine K_gf 159 (.ref 6) rfl rfl kd_178 rfl rfl rfl ?_
            refine K_gf 162 (.int (i32 (m38.1 206))) rfl rfl kd_6 rfl rfl rfl ?_
            refine T_ld 165 (.int (i32 307)) rfl (fun _ => rfl) ?_
            refine T_icmp 176 168 rfl rfl rfl (r32 (by omega) (by omega)) ⟨by decide, by decide⟩ (fun (h119 : (m38.1 206) ≠ 307) => ?_) (fun (h119 : ¬ ((m38.1 206) ≠ 307)) => ?_)
            · skip
              refine T_ld 177 (.ref 178) rfl (fun _ => rfl) ?_
              refine K_gf 180 (.ref 6) rfl rfl kd_178 rfl rfl rfl ?_
              refine T_ld 183 (.int (i32 306)) rfl (fun _ => rfl) ?_
              refine T_callx 186 78 [.ref 6, .int (i32 306)] [] rfl (fun _ => rfl) rfl rfl (c_tx_expect w (mO m38 [] []) c N D (by omega) Tm38 306 ⟨by decide, by decide⟩) (fun rr120 k121 => ?_)
              rcases k121 with ⟨m122, Tm122, Fm122, h123, h124, rfl⟩ | ⟨xx127, m125, hx126, Tm125, Fm125, rfl⟩
              rotate_left
              · skip
                refine Or.inr ⟨_, _, _, _, rfl, ?_⟩
                exact Or.inr ⟨xx127, (mO m125 [] []), (hx126), Tm125, (fr_m (fr_s Fm125 (fr_m (fr_s Fm38 (fr_m (fr_s Fm29 (fr_m (fr_s Fm23 (fr_m (fr_s Fm11 (fr_m (fr_s Fm3 (fr_m fr_0 rfl rfl) rfl rfl) rfl rfl) rfl rfl) rfl rfl) rfl rfl) rfl rfl) rfl rfl) rfl rfl) rfl rfl) rfl rfl) rfl rfl) rfl rfl), rfl⟩
              refine Or.inl ⟨_, _, _, _, rfl, ?_⟩
              refine K_nb (st' := []) rfl ?_
              have g128 : (-1) ≤ m122.1 206 ∧ m122.1 206 ≤ 65535 := Tm122.1 206
              have g129 : 0 ≤ m122.1 207 ∧ m122.1 207 ≤ 4001 := Tm122.1 207
              replace h123 : (m38.1 206) = (306 : Int) := h123
              replace h124 : (m38.1 213) = 0 := h124
              rewrite [(show (m38.1 213) = (m.1 213) from ((fr1 Fm38 213 rfl).trans ((fr1 Fm29 213 rfl).trans ((fr1 Fm23 213 rfl).trans ((fr1 Fm11 213 rfl).trans (fr1 Fm3 213 rfl))))))] at h124
              refine T_ld 187 (.ref 178) rfl (fun _ => rfl) ?_
              refine K_gf 190 (.ref 31) rfl rfl kd_178 rfl rfl rfl ?_
              refine K_gf 193 (.ref 40) rfl rfl kd_31 rfl rfl rfl ?_
              refine T_ld 194 (.int (i32 v10)) rfl (fun _ => rfl) ?_
              refine T_ld 195 (.ref 178) rfl (fun _ => rfl) ?_
              refine T_callx 198 117 [.ref 178] [.int (i32 v10), .ref 40] rfl (fun _ => rfl) rfl rfl (c_rd_goal w (mO m122 [] []) c N D (by omega) Tm122 (show KPp (m122.1 203) (m122.2 8) (m122.2 9) (m122.1 214) (m122.1 215) (m122.1 216) (m122.1 217) (m122.1 221) (m122.1 223) (m122.1 219) by rewrite [(show (m122.1 203) = (m11.1 203) from ((fr1 Fm122 203 rfl).trans ((fr1 Fm38 203 rfl).trans ((fr1 Fm29 203 rfl).trans (fr1 Fm23 203 rfl))))), (show (m122.2 8) = (m11.2 8) from ((fr2 Fm122 8 rfl).trans ((fr2 Fm38 8 rfl).trans ((fr2 Fm29 8 rfl).trans (fr2 Fm23 8 rfl))))), (show (m122.2 9) = (m11.2 9) from ((fr2 Fm122 9 rfl).trans ((fr2 Fm38 9 rfl).trans ((fr2 Fm29 9 rfl).trans (fr2 Fm23 9 rfl))))), (show (m122.1 214) = (m.1 214) from ((fr1 Fm122 214 rfl).trans ((fr1 Fm38 214 rfl).trans ((fr1 Fm29 214 rfl).trans ((fr1 Fm23 214 rfl).trans ((fr1 Fm11 214 rfl).trans (fr1 Fm3 214 rfl))))))), (show (m122.1 215) = (m.1 215) from ((fr1 Fm122 215 rfl).trans ((fr1 Fm38 215 rfl).trans ((fr1 Fm29 215 rfl).trans ((fr1 Fm23 215 rfl).trans ((fr1 Fm11 215 rfl).trans (fr1 Fm3 215 rfl))))))), (show (m122.1 216) = (m.1 216) from ((fr1 Fm122 216 rfl).trans ((fr1 Fm38 216 rfl).trans ((fr1 Fm29 216 rfl).trans ((fr1 Fm23 216 rfl).trans ((fr1 Fm11 216 rfl).trans (fr1 Fm3 216 rfl))))))), (show (m122.1 217) = (m.1 217) from ((fr1 Fm122 217 rfl).trans ((fr1 Fm38 217 rfl).trans ((fr1 Fm29 217 rfl).trans ((fr1 Fm23 217 rfl).trans ((fr1 Fm11 217 rfl).trans (fr1 Fm3 217 rfl))))))), (show (m122.1 221) = (m11.1 221) from ((fr1 Fm122 221 rfl).trans ((fr1 Fm38 221 rfl).trans ((fr1 Fm29 221 rfl).trans (fr1 Fm23 221 rfl))))), (show (m122.1 223) = (m.1 223) from ((fr1 Fm122 223 rfl).trans ((fr1 Fm38 223 rfl).trans ((fr1 Fm29 223 rfl).trans ((fr1 Fm23 223 rfl).trans ((fr1 Fm11 223 rfl).trans (fr1 Fm3 223 rfl))))))), (show (m122.1 219) = (m.1 219) from ((fr1 Fm122 219 rfl).trans ((fr1 Fm38 219 rfl).trans ((fr1 Fm29 219 rfl).trans ((fr1 Fm23 219 rfl).trans ((fr1 Fm11 219 rfl).trans (fr1 Fm3 219 rfl)))))))]; exact pKP) (show SSp (m122.1 222) (m122.2 36) (m122.1 221) by rewrite [(show (m122.1 222) = (m23.1 222) from ((fr1 Fm122 222 rfl).trans ((fr1 Fm38 222 rfl).trans (fr1 Fm29 222 rfl)))), (show (m122.2 36) = (m23.2 36) from ((fr2 Fm122 36 rfl).trans ((fr2 Fm38 36 rfl).trans (fr2 Fm29 36 rfl)))), (show (m122.1 221) = (m11.1 221) from ((fr1 Fm122 221 rfl).trans ((fr1 Fm38 221 rfl).trans ((fr1 Fm29 221 rfl).trans (fr1 Fm23 221 rfl)))))]; exact hSS)) (fun rr130 k131 => ?_)
              rcases k131 with ⟨m132, go, Tm132, Fm132, g133, h134, h135, h136, rfl⟩ | ⟨xx139, m137, hx138, Tm137, Fm137, rfl⟩
              rotate_left
              · skip
                refine Or.inr ⟨_, _, _, _, rfl, ?_⟩
                exact Or.inr ⟨xx139, (mO m137 [] []), (hx138), Tm137, (fr_m (fr_s Fm137 (fr_m (fr_s Fm122 (fr_m (fr_s Fm38 (fr_m (fr_s Fm29 (fr_m (fr_s Fm23 (fr_m (fr_s Fm11 (fr_m (fr_s Fm3 (fr_m fr_0 rfl rfl) rfl rfl) rfl rfl) rfl rfl) rfl rfl) rfl rfl) rfl rfl) rfl rfl) rfl rfl) rfl rfl) rfl rfl) rfl rfl) rfl rfl) rfl rfl) rfl rfl), rfl⟩
              refine Or.inl ⟨_, _, _, _, rfl, ?_⟩
              refine K_nb (st' := [.int (i32 go), .int (i32 v10), .ref 40]) rfl ?_
              obtain ⟨g133a, g133b⟩ := g133
              have g140 : 0 ≤ m132.1 203 ∧ m132.1 203 ≤ 90 := Tm132.1 203
              have g141 : (-1) ≤ m132.1 206 ∧ m132.1 206 ≤ 65535 := Tm132.1 206
              have g142 : 0 ≤ m132.1 207 ∧ m132.1 207 ≤ 4001 := Tm132.1 207
              have g143 : 0 ≤ m132.1 221 ∧ m132.1 221 ≤ 16 := Tm132.1 221
              replace h134 : KPp (m132.1 203) (m132.2 8) (m132.2 9) (m122.1 214) (m122.1 215) (m122.1 216) (m122.1 217) (m132.1 221) (m122.1 223) (m122.1 219) := h134
              rewrite [(show (m122.1 214) = (m.1 214) from ((fr1 Fm122 214 rfl).trans ((fr1 Fm38 214 rfl).trans ((fr1 Fm29 214 rfl).trans ((fr1 Fm23 214 rfl).trans ((fr1 Fm11 214 rfl).trans (fr1 Fm3 214 rfl))))))), (show (m122.1 215) = (m.1 215) from ((fr1 Fm122 215 rfl).trans ((fr1 Fm38 215 rfl).trans ((fr1 Fm29 215 rfl).trans ((fr1 Fm23 215 rfl).trans ((fr1 Fm11 215 rfl).trans (fr1 Fm3 215 rfl))))))), (show (m122.1 216) = (m.1 216) from ((fr1 Fm122 216 rfl).trans ((fr1 Fm38 216 rfl).trans ((fr1 Fm29 216 rfl).trans ((fr1 Fm23 216 rfl).trans ((fr1 Fm11 216 rfl).trans (fr1 Fm3 216 rfl))))))), (show (m122.1 217) = (m.1 217) from ((fr1 Fm122 217 rfl).trans ((fr1 Fm38 217 rfl).trans ((fr1 Fm29 217 rfl).trans ((fr1 Fm23 217 rfl).trans ((fr1 Fm11 217 rfl).trans (fr1 Fm3 217 rfl))))))), (show (m122.1 223) = (m.1 223) from ((fr1 Fm122 223 rfl).trans ((fr1 Fm38 223 rfl).trans ((fr1 Fm29 223 rfl).trans ((fr1 Fm23 223 rfl).trans ((fr1 Fm11 223 rfl).trans (fr1 Fm3 223 rfl))))))), (show (m122.1 219) = (m.1 219) from ((fr1 Fm122 219 rfl).trans ((fr1 Fm38 219 rfl).trans ((fr1 Fm29 219 rfl).trans ((fr1 Fm23 219 rfl).trans ((fr1 Fm11 219 rfl).trans (fr1 Fm3 219 rfl)))))))] at h134
              have pKP := h134
              replace h135 : SSp (m122.1 222) (m132.2 36) (m132.1 221) := h135
              rewrite [(show (m122.1 222) = (m23.1 222) from ((fr1 Fm122 222 rfl).trans ((fr1 Fm38 222 rfl).trans (fr1 Fm29 222 rfl))))] at h135
              have hSS := h135
              replace h136 : (m122.1 221) ≤ (m132.1 221) := h136
              rewrite [(show (m122.1 221) = (m11.1 221) from ((fr1 Fm122 221 rfl).trans ((fr1 Fm38 221 rfl).trans ((fr1 Fm29 221 rfl).trans (fr1 Fm23 221 rfl)))))] at h136
              have G144 : ∀ j, 0 ≤ (upI (m.2 34) v10 go) j ∧ (upI (m.2 34) v10 go) j ≤ 17 := upI_rg (hT.2.1 34) ⟨by omega, by omega⟩
              refine K_iast (a' := [(34, upI (m.2 34) v10 go)]) 199 34 (m.2 34) rfl rfl rfl (by omega) (show v10 < (16 : Int) by omega) (show (m132.2 34) = (m.2 34) from ((fr2 Fm132 34 rfl).trans ((fr2 Fm122 34 rfl).trans ((fr2 Fm38 34 rfl).trans ((fr2 Fm29 34 rfl).trans ((fr2 Fm23 34 rfl).trans ((fr2 Fm11 34 rfl).trans (fr2 Fm3 34 rfl)))))))) rfl ?_
              refine T_ld 200 (.ref 178) rfl (fun _ => rfl) ?_
              refine K_gf 203 (.ref 6) rfl rfl kd_178 rfl rfl rfl ?_
              refine T_ld 205 (.int (i32 59)) rfl (fun _ => rfl) ?_
              refine T_callx 208 78 [.ref 6, .int (i32 59)] [] rfl (fun _ => rfl) rfl rfl (c_tx_expect w (mO m132 [] [(34, upI (m.2 34) v10 go)]) c N D (by omega) (KTy_mO Tm132 rfl rfl trivial ⟨G144, trivial⟩) 59 ⟨by decide, by decide⟩) (fun rr145 k146 => ?_)
              rcases k146 with ⟨m147, Tm147, Fm147, h148, h149, rfl⟩ | ⟨xx152, m150, hx151, Tm150, Fm150, rfl⟩
              rotate_left
              · skip
                refine Or.inr ⟨_, _, _, _, rfl, ?_⟩
                exact Or.inr ⟨xx152, (mO m150 [] []), (hx151), Tm150, (fr_m (fr_s Fm150 (fr_m (fr_s Fm132 (fr_m (fr_s Fm122 (fr_m (fr_s Fm38 (fr_m (fr_s Fm29 (fr_m (fr_s Fm23 (fr_m (fr_s Fm11 (fr_m (fr_s Fm3 (fr_m fr_0 rfl rfl) rfl rfl) rfl rfl) rfl rfl) rfl rfl) rfl rfl) rfl rfl) rfl rfl) rfl rfl) rfl rfl) rfl rfl) rfl rfl) rfl rfl) rfl rfl) rfl rfl) rfl rfl) rfl rfl), rfl⟩
              refine Or.inl ⟨_, _, _, _, rfl, ?_⟩
              refine K_nb (st' := []) rfl ?_
              have g153 : (-1) ≤ m147.1 206 ∧ m147.1 206 ≤ 65535 := Tm147.1 206
              have g154 : 0 ≤ m147.1 207 ∧ m147.1 207 ≤ 4001 := Tm147.1 207
              replace h148 : (m132.1 206) = (59 : Int) := h148
              replace h149 : (m132.1 213) = 0 := h149
              rewrite [(show (m132.1 213) = (m.1 213) from ((fr1 Fm132 213 rfl).trans ((fr1 Fm122 213 rfl).trans ((fr1 Fm38 213 rfl).trans ((fr1 Fm29 213 rfl).trans ((fr1 Fm23 213 rfl).trans ((fr1 Fm11 213 rfl).trans (fr1 Fm3 213 rfl))))))))] at h149
              refine T_ld 209 (.ref 178) rfl (fun _ => rfl) ?_
              refine K_gf 212 (.ref 6) rfl rfl kd_178 rfl rfl rfl ?_
              refine T_ld 214 (.int (i32 125)) rfl (fun _ => rfl) ?_
              refine T_callx 217 78 [.ref 6, .int (i32 125)] [] rfl (fun _ => rfl) rfl rfl (c_tx_expect w (mO m147 [] []) c N D (by omega) Tm147 125 ⟨by decide, by decide⟩) (fun rr155 k156 => ?_)
              rcases k156 with ⟨m157, Tm157, Fm157, h158, h159, rfl⟩ | ⟨xx162, m160, hx161, Tm160, Fm160, rfl⟩
              rotate_left
              · skip
                refine Or.inr ⟨_, _, _, _, rfl, ?_⟩
                exact Or.inr ⟨xx162, (mO m160 [] []), (hx161), Tm160, (fr_m (fr_s Fm160 (fr_m (fr_s Fm147 (fr_m (fr_s Fm132 (fr_m (fr_s Fm122 (fr_m (fr_s Fm38 (fr_m (fr_s Fm29 (fr_m (fr_s Fm23 (fr_m (fr_s Fm11 (fr_m (fr_s Fm3 (fr_m fr_0 rfl rfl) rfl rfl) rfl rfl) rfl rfl) rfl rfl) rfl rfl) rfl rfl) rfl rfl) rfl rfl) rfl rfl) rfl rfl) rfl rfl) rfl rfl) rfl rfl) rfl rfl) rfl rfl) rfl rfl) rfl rfl) rfl rfl), rfl⟩
              refine Or.inl ⟨_, _, _, _, rfl, ?_⟩
              refine K_nb (st' := []) rfl ?_
              have g163 : (-1) ≤ m157.1 206 ∧ m157.1 206 ≤ 65535 := Tm157.1 206
              have g164 : 0 ≤ m157.1 207 ∧ m157.1 207 ≤ 4001 := Tm157.1 207
              replace h158 : (m147.1 206) = (125 : Int) := h158
              replace h159 : (m147.1 213) = 0 := h159
              rewrite [(show (m147.1 213) = (m.1 213) from ((fr1 Fm147 213 rfl).trans ((fr1 Fm132 213 rfl).trans ((fr1 Fm122 213 rfl).trans ((fr1 Fm38 213 rfl).trans ((fr1 Fm29 213 rfl).trans ((fr1 Fm23 213 rfl).trans ((fr1 Fm11 213 rfl).trans (fr1 Fm3 213 rfl)))))))))] at h159
              refine T_ret rfl (fun _ => rfl) ?_
              exact Or.inl ⟨(mO m157 [] []), Tm157, (fr_m (fr_s Fm157 (fr_m (fr_s Fm147 (fr_m (fr_s Fm132 (fr_m (fr_s Fm122 (fr_m (fr_s Fm38 (fr_m (fr_s Fm29 (fr_m (fr_s Fm23 (fr_m (fr_s Fm11 (fr_m (fr_s Fm3 (fr_m fr_0 rfl rfl) rfl rfl) rfl rfl) rfl rfl) rfl rfl) rfl rfl) rfl rfl) rfl rfl) rfl rfl) rfl rfl) rfl rfl) rfl rfl) rfl rfl) rfl rfl) rfl rfl) rfl rfl) rfl rfl) rfl rfl) rfl rfl), (show KPp (m157.1 203) (m157.2 8) (m157.2 9) (m.1 214) (m.1 215) (m.1 216) (m.1 217) (m157.1 221) (m.1 223) (m.1 219) by rewrite [(show (m157.1 203) = (m132.1 203) from ((fr1 Fm157 203 rfl).trans (fr1 Fm147 203 rfl))), (show (m157.2 8) = (m132.2 8) from ((fr2 Fm157 8 rfl).trans (fr2 Fm147 8 rfl))), (show (m157.2 9) = (m132.2 9) from ((fr2 Fm157 9 rfl).trans (fr2 Fm147 9 rfl))), (show (m157.1 221) = (m132.1 221) from ((fr1 Fm157 221 rfl).trans (fr1 Fm147 221 rfl)))]; first | (exact pKP) | (exfalso; omega)), (show SSp (m157.1 222) (m157.2 36) (m157.1 221) by rewrite [(show (m157.1 222) = (m23.1 222) from ((fr1 Fm157 222 rfl).trans ((fr1 Fm147 222 rfl).trans ((fr1 Fm132 222 rfl).trans ((fr1 Fm122 222 rfl).trans ((fr1 Fm38 222 rfl).trans (fr1 Fm29 222 rfl))))))), (show (m157.2 36) = (m132.2 36) from ((fr2 Fm157 36 rfl).trans (fr2 Fm147 36 rfl))), (show (m157.1 221) = (m132.1 221) from ((fr1 Fm157 221 rfl).trans (fr1 Fm147 221 rfl)))]; first | (exact hSS) | (exfalso; omega)), (show NKp (m157.2 18) (m157.2 19) by rewrite [(show (m157.2 18) = (m.2 18) from ((fr2 Fm157 18 rfl).trans ((fr2 Fm147 18 rfl).trans ((fr2 Fm132 18 rfl).trans ((fr2 Fm122 18 rfl).trans ((fr2 Fm38 18 rfl).trans ((fr2 Fm29 18 rfl).trans ((fr2 Fm23 18 rfl).trans ((fr2 Fm11 18 rfl).trans (fr2 Fm3 18 rfl)))))))))), (show (m157.2 19) = (m.2 19) from ((fr2 Fm157 19 rfl).trans ((fr2 Fm147 19 rfl).trans ((fr2 Fm132 19 rfl).trans ((fr2 Fm122 19 rfl).trans ((fr2 Fm38 19 rfl).trans ((fr2 Fm29 19 rfl).trans ((fr2 Fm23 19 rfl).trans ((fr2 Fm11 19 rfl).trans (fr2 Fm3 19 rfl))))))))))]; first | (exact hNK) | (exfalso; omega)), rfl⟩
            · skip
              refine T_ld 169 (.ref 178) rfl (fun _ => rfl) ?_
              refine T_ld 170 (.int (i32 v10)) rfl (fun _ => rfl) ?_
              refine T_callx 173 91 [.ref 178, .int (i32 v10)] [] rfl (fun _ => rfl) rfl rfl (c_rd_select w (mO m38 [] []) c N D (by omega) Tm38 v10 (r32 (by omega) (by omega)) (show KPp (m38.1 203) (m38.2 8) (m38.2 9) (m38.1 214) (m38.1 215) (m38.1 216) (m38.1 217) (m38.1 221) (m38.1 223) (m38.1 219) by rewrite [(show (m38.1 203) = (m11.1 203) from ((fr1 Fm38 203 rfl).trans ((fr1 Fm29 203 rfl).trans (fr1 Fm23 203 rfl)))), (show (m38.2 8) = (m11.2 8) from ((fr2 Fm38 8 rfl).trans ((fr2 Fm29 8 rfl).trans (fr2 Fm23 8 rfl)))), (show (m38.2 9) = (m11.2 9) from ((fr2 Fm38 9 rfl).trans ((fr2 Fm29 9 rfl).trans (fr2 Fm23 9 rfl)))), (show (m38.1 214) = (m.1 214) from ((fr1 Fm38 214 rfl).trans ((fr1 Fm29 214 rfl).trans ((fr1 Fm23 214 rfl).trans ((fr1 Fm11 214 rfl).trans (fr1 Fm3 214 rfl)))))), (show (m38.1 215) = (m.1 215) from ((fr1 Fm38 215 rfl).trans ((fr1 Fm29 215 rfl).trans ((fr1 Fm23 215 rfl).trans ((fr1 Fm11 215 rfl).trans (fr1 Fm3 215 rfl)))))), (show (m38.1 216) = (m.1 216) from ((fr1 Fm38 216 rfl).trans ((fr1 Fm29 216 rfl).trans ((fr1 Fm23 216 rfl).trans ((fr1 Fm11 216 rfl).trans (fr1 Fm3 216 rfl)))))), (show (m38.1 217) = (m.1 217) from ((fr1 Fm38 217 rfl).trans ((fr1 Fm29 217 rfl).trans ((fr1 Fm23 217 rfl).trans ((fr1 Fm11 217 rfl).trans (fr1 Fm3 217 rfl)))))), (show (m38.1 221) = (m11.1 221) from ((fr1 Fm38 221 rfl).trans ((fr1 Fm29 221 rfl).trans (fr1 Fm23 221 rfl)))), (show (m38.1 223) = (m.1 223) from ((fr1 Fm38 223 rfl).trans ((fr1 Fm29 223 rfl).trans ((fr1 Fm23 223 rfl).trans ((fr1 Fm11 223 rfl).trans (fr1 Fm3 223 rfl)))))), (show (m38.1 219) = (m.1 219) from ((fr1 Fm38 219 rfl).trans ((fr1 Fm29 219 rfl).trans ((fr1 Fm23 219 rfl).trans ((fr1 Fm11 219 rfl).trans (fr1 Fm3 219 rfl))))))]; exact pKP) (show SSp (m38.1 222) (m38.2 36) (m38.1 221) by rewrite [(show (m38.1 222) = (m23.1 222) from ((fr1 Fm38 222 rfl).trans (fr1 Fm29 222 rfl))), (show (m38.2 36) = (m23.2 36) from ((fr2 Fm38 36 rfl).trans (fr2 Fm29 36 rfl))), (show (m38.1 221) = (m11.1 221) from ((fr1 Fm38 221 rfl).trans ((fr1 Fm29 221 rfl).trans (fr1 Fm23 221 rfl))))]; exact hSS) (show NKp (m38.2 18) (m38.2 19) by rewrite [(show (m38.2 18) = (m.2 18) from ((fr2 Fm38 18 rfl).trans ((fr2 Fm29 18 rfl).trans ((fr2 Fm23 18 rfl).trans ((fr2 Fm11 18 rfl).trans (fr2 Fm3 18 rfl)))))), (show (m38.2 19) = (m.2 19) from ((fr2 Fm38 19 rfl).trans ((fr2 Fm29 19 rfl).trans ((fr2 Fm23 19 rfl).trans ((fr2 Fm11 19 rfl).trans (fr2 Fm3 19 rfl))))))]; exact hNK) (show 0 ≤ v10 ∧ v10 ≤ 15 by omega)) (fun rr165 k166 => ?_)
              rcases k166 with ⟨m167, Tm167, Fm167, h168, h169, h170, rfl⟩ | ⟨xx173, m171, hx172, Tm171, Fm171, rfl⟩
              rotate_left
              · skip
                refine Or.inr ⟨_, _, _, _, rfl, ?_⟩
                exact Or.inr ⟨xx173, (mO m171 [] []), (hx172), Tm171, (fr_m (fr_s Fm171 (fr_m (fr_s Fm38 (fr_m (fr_s Fm29 (fr_m (fr_s Fm23 (fr_m (fr_s Fm11 (fr_m (fr_s Fm3 (fr_m fr_0 rfl rfl) rfl rfl) rfl rfl) rfl rfl) rfl rfl) rfl rfl) rfl rfl) rfl rfl) rfl rfl) rfl rfl) rfl rfl) rfl rfl) rfl rfl), rfl⟩
              refine Or.inl ⟨_, _, _, _, rfl, ?_⟩
              refine K_nb (st' := []) rfl ?_
              have g174 : 0 ≤ m167.1 203 ∧ m167.1 203 ≤ 90 := Tm167.1 203
              have g175 : (-1) ≤ m167.1 206 ∧ m167.1 206 ≤ 65535 := Tm167.1 206
              have g176 : 0 ≤ m167.1 207 ∧ m167.1 207 ≤ 4001 := Tm167.1 207
              have g177 : 0 ≤ m167.1 213 ∧ m167.1 213 ≤ 1 := Tm167.1 213
              have g178 : 0 ≤ m167.1 221 ∧ m167.1 221 ≤ 16 := Tm167.1 221
              replace h168 : KPp (m167.1 203) (m167.2 8) (m167.2 9) (m38.1 214) (m38.1 215) (m38.1 216) (m38.1 217) (m167.1 221) (m38.1 223) (m38.1 219) := h168
              rewrite [(show (m38.1 214) = (m.1 214) from ((fr1 Fm38 214 rfl).trans ((fr1 Fm29 214 rfl).trans ((fr1 Fm23 214 rfl).trans ((fr1 Fm11 214 rfl).trans (fr1 Fm3 214 rfl)))))), (show (m38.1 215) = (m.1 215) from ((fr1 Fm38 215 rfl).trans ((fr1 Fm29 215 rfl).trans ((fr1 Fm23 215 rfl).trans ((fr1 Fm11 215 rfl).trans (fr1 Fm3 215 rfl)))))), (show (m38.1 216) = (m.1 216) from ((fr1 Fm38 216 rfl).trans ((fr1 Fm29 216 rfl).trans ((fr1 Fm23 216 rfl).trans ((fr1 Fm11 216 rfl).trans (fr1 Fm3 216 rfl)))))), (show (m38.1 217) = (m.1 217) from ((fr1 Fm38 217 rfl).trans ((fr1 Fm29 217 rfl).trans ((fr1 Fm23 217 rfl).trans ((fr1 Fm11 217 rfl).trans (fr1 Fm3 217 rfl)))))), (show (m38.1 223) = (m.1 223) from ((fr1 Fm38 223 rfl).trans ((fr1 Fm29 223 rfl).trans ((fr1 Fm23 223 rfl).trans ((fr1 Fm11 223 rfl).trans (fr1 Fm3 223 rfl)))))), (show (m38.1 219) = (m.1 219) from ((fr1 Fm38 219 rfl).trans ((fr1 Fm29 219 rfl).trans ((fr1 Fm23 219 rfl).trans ((fr1 Fm11 219 rfl).trans (fr1 Fm3 219 rfl))))))] at h168
              have pKP := h168
              replace h169 : SSp (m38.1 222) (m167.2 36) (m167.1 221) := h169
              rewrite [(show (m38.1 222) = (m23.1 222) from ((fr1 Fm38 222 rfl).trans (fr1 Fm29 222 rfl)))] at h169
              have hSS := h169
              replace h170 : NKp (m167.2 18) (m167.2 19) := h170
              have hNK := h170
              refine T_goto 208 rfl (fun _ => rfl) ?_
              refine T_ld 209 (.ref 178) rfl (fun _ => rfl) ?_
              refine K_gf 212 (.ref 6) rfl rfl kd_178 rfl rfl rfl ?_
              refine T_ld 214 (.int (i32 125)) rfl (fun _ => rfl) ?_
              refine T_callx 217 78 [.ref 6, .int (i32 125)] [] rfl (fun _ => rfl) rfl rfl (c_tx_expect w (mO m167 [] []) c N D (by omega) Tm167 125 ⟨by decide, by decide⟩) (fun rr179 k180 => ?_)
              rcases k180 with ⟨m181, Tm181, Fm181, h182, h183, rfl⟩ | ⟨xx186, m184, hx185, Tm184, Fm184, rfl⟩
              rotate_left
              · skip
                refine Or.inr ⟨_, _, _, _, rfl, ?_⟩
                exact Or.inr ⟨xx186, (mO m184 [] []), (hx185), Tm184, (fr_m (fr_s Fm184 (fr_m (fr_s Fm167 (fr_m (fr_s Fm38 (fr_m (fr_s Fm29 (fr_m (fr_s Fm23 (fr_m (fr_s Fm11 (fr_m (fr_s Fm3 (fr_m fr_0 rfl rfl) rfl rfl) rfl rfl) rfl rfl) rfl rfl) rfl rfl) rfl rfl) rfl rfl) rfl rfl) rfl rfl) rfl rfl) rfl rfl) rfl rfl) rfl rfl) rfl rfl), rfl⟩
              refine Or.inl ⟨_, _, _, _, rfl, ?_⟩
              refine K_nb (st' := []) rfl ?_
              have g187 : (-1) ≤ m181.1 206 ∧ m181.1 206 ≤ 65535 := Tm181.1 206
              have g188 : 0 ≤ m181.1 207 ∧ m181.1 207 ≤ 4001 := Tm181.1 207
              replace h182 : (m167.1 206) = (125 : Int) := h182
              replace h183 : (m167.1 213) = 0 := h183
              refine T_ret rfl (fun _ => rfl) ?_
              exact Or.inl ⟨(mO m181 [] []), Tm181, (fr_m (fr_s Fm181 (fr_m (fr_s Fm167 (fr_m (fr_s Fm38 (fr_m (fr_s Fm29 (fr_m (fr_s Fm23 (fr_m (fr_s Fm11 (fr_m (fr_s Fm3 (fr_m fr_0 rfl rfl) rfl rfl) rfl rfl) rfl rfl) rfl rfl) rfl rfl) rfl rfl) rfl rfl) rfl rfl) rfl rfl) rfl rfl) rfl rfl) rfl rfl) rfl rfl) rfl rfl), (show KPp (m181.1 203) (m181.2 8) (m181.2 9) (m.1 214) (m.1 215) (m.1 216) (m.1 217) (m181.1 221) (m.1 223) (m.1 219) by rewrite [(show (m181.1 203) = (m167.1 203) from (fr1 Fm181 203 rfl)), (show (m181.2 8) = (m167.2 8) from (fr2 Fm181 8 rfl)), (show (m181.2 9) = (m167.2 9) from (fr2 Fm181 9 rfl)), (show (m181.1 221) = (m167.1 221) from (fr1 Fm181 221 rfl))]; first | (exact pKP) | (exfalso; omega)), (show SSp (m181.1 222) (m181.2 36) (m181.1 221) by rewrite [(show (m181.1 222) = (m23.1 222) from ((fr1 Fm181 222 rfl).trans ((fr1 Fm167 222 rfl).trans ((fr1 Fm38 222 rfl).trans (fr1 Fm29 222 rfl))))), (show (m181.2 36) = (m167.2 36) from (fr2 Fm181 36 rfl)), (show (m181.1 221) = (m167.1 221) from (fr1 Fm181 221 rfl))]; first | (exact hSS) | (exfalso; omega)), (show NKp (m181.2 18) (m181.2 19) by rewrite [(show (m181.2 18) = (m167.2 18) from (fr2 Fm181 18 rfl)), (show (m181.2 19) = (m167.2 19) from (fr2 Fm181 19 rfl))]; first | (exact hNK) | (exfalso; omega)), rfl⟩
          · skip
            refine T_ld 144 (.ref 178) rfl (fun _ => rfl) ?_
            refine T_ld 145 (.int (i32 v10)) rfl (fun _ => rfl) ?_
            refine T_ld 146 (.int (i32 v37)) rfl (fun _ => rfl) ?_
            refine T_callx 149 90 [.ref 178, .int (i32 v10), .int (i32 v37)] [] rfl (fun _ => rfl) rfl rfl (c_rd_extract w (mO m38 [] []) c N D (by omega) Tm38 v10 v37 (r32 (by omega) (by omega)) (r32 (by omega) (by omega)) (show KPp (m38.1 203) (m38.2 8) (m38.2 9) (m38.1 214) (m38.1 215) (m38.1 216) (m38.1 217) (m38.1 221) (m38.1 223) (m38.1 219) by rewrite [(show (m38.1 203) = (m11.1 203) from ((fr1 Fm38 203 rfl).trans ((fr1 Fm29 203 rfl).trans (fr1 Fm23 203 rfl)))), (show (m38.2 8) = (m11.2 8) from ((fr2 Fm38 8 rfl).trans ((fr2 Fm29 8 rfl).trans (fr2 Fm23 8 rfl)))), (show (m38.2 9) = (m11.2 9) from ((fr2 Fm38 9 rfl).trans ((fr2 Fm29 9 rfl).trans (fr2 Fm23 9 rfl)))), (show (m38.1 214) = (m.1 214) from ((fr1 Fm38 214 rfl).trans ((fr1 Fm29 214 rfl).trans ((fr1 Fm23 214 rfl).trans ((fr1 Fm11 214 rfl).trans (fr1 Fm3 214 rfl)))))), (show (m38.1 215) = (m.1 215) from ((fr1 Fm38 215 rfl).trans ((fr1 Fm29 215 rfl).trans ((fr1 Fm23 215 rfl).trans ((fr1 Fm11 215 rfl).trans (fr1 Fm3 215 rfl)))))), (show (m38.1 216) = (m.1 216) from ((fr1 Fm38 216 rfl).trans ((fr1 Fm29 216 rfl).trans ((fr1 Fm23 216 rfl).trans ((fr1 Fm11 216 rfl).trans (fr1 Fm3 216 rfl)))))), (show (m38.1 217) = (m.1 217) from ((fr1 Fm38 217 rfl).trans ((fr1 Fm29 217 rfl).trans ((fr1 Fm23 217 rfl).trans ((fr1 Fm11 217 rfl).trans (fr1 Fm3 217 rfl)))))), (show (m38.1 221) = (m11.1 221) from ((fr1 Fm38 221 rfl).trans ((fr1 Fm29 221 rfl).trans (fr1 Fm23 221 rfl)))), (show (m38.1 223) = (m.1 223) from ((fr1 Fm38 223 rfl).trans ((fr1 Fm29 223 rfl).trans ((fr1 Fm23 223 rfl).trans ((fr1 Fm11 223 rfl).trans (fr1 Fm3 223 rfl)))))), (show (m38.1 219) = (m.1 219) from ((fr1 Fm38 219 rfl).trans ((fr1 Fm29 219 rfl).trans ((fr1 Fm23 219 rfl).trans ((fr1 Fm11 219 rfl).trans (fr1 Fm3 219 rfl))))))]; exact pKP) (show 0 ≤ v10 ∧ v10 ≤ 15 by omega) (show 0 ≤ v37 ∧ v37 ≤ 6 by omega)) (fun rr189 k190 => ?_)
            rcases k190 with ⟨m191, Tm191, Fm191, rfl⟩ | ⟨xx194, m192, hx193, Tm192, Fm192, rfl⟩
            rotate_left
            · skip
              refine Or.inr ⟨_, _, _, _, rfl, ?_⟩
              exact Or.inr ⟨xx194, (mO m192 [] []), (hx193), Tm192, (fr_m (fr_s Fm192 (fr_m (fr_s Fm38 (fr_m (fr_s Fm29 (fr_m (fr_s Fm23 (fr_m (fr_s Fm11 (fr_m (fr_s Fm3 (fr_m fr_0 rfl rfl) rfl rfl) rfl rfl) rfl rfl) rfl rfl) rfl rfl) rfl rfl) rfl rfl) rfl rfl) rfl rfl) rfl rfl) rfl rfl) rfl rfl), rfl⟩
            refine Or.inl ⟨_, _, _, _, rfl, ?_⟩
            refine K_nb (st' := []) rfl ?_
            have g195 : (-1) ≤ m191.1 206 ∧ m191.1 206 ≤ 65535 := Tm191.1 206
            have g196 : 0 ≤ m191.1 207 ∧ m191.1 207 ≤ 4001 := Tm191.1 207
            refine T_iinc 152 [(3, .int (i32 (v37 + 1))), (0, .ref 178), (2, .int (i32 v10))] rfl rfl (by decide) rfl rfl ?_
            refine T_goto 124 rfl (fun _ => rfl) ?_
            refine Tm_lv (a := [(0, .ref 178), (2, .int (i32 v10)), (3, .int (i32 (v37 + 1)))]) rfl rfl ⟨rfl, rfl, rfl, trivial⟩ ?_
            exact ih46 (v37 + 1) (mO m191 [] []) (r32 (by omega) (by omega)) Tm191 (fr_m (fr_s Fm191 (fr_m (fr_s Fm38 (fr_m fr_0 rfl rfl) rfl rfl) rfl rfl) rfl rfl) rfl rfl) (show 0 ≤ (v37 + 1) by omega) (show 0 ≤ (v37 + 1) ∧ (v37 + 1) ≤ 7 by omega) (show 12 - (v37 + 1) < (n45 : Int) by omega)
    refine Tm_lv (a := [(0, .ref 178), (2, .int (i32 v10)), (3, .int (i32 0))]) rfl rfl ⟨rfl, rfl, rfl, trivial⟩ ?_
    exact L124_39 ((12 - (0 : Int) : Int) + 1).toNat 0 (mO m29 [] []) ⟨by decide, by decide⟩ Tm29 (fr_m fr_0 rfl rfl) (show 0 ≤ (0 : Int) by omega) (show 0 ≤ (0 : Int) ∧ (0 : Int) ≤ 7 by omega) (show 12 - (0 : Int) < ((((12 - (0 : Int) : Int) + 1).toNat : Nat) : Int) by omega)
  refine T_ld 16 (.ref 178) rfl (fun _ => rfl) ?_
  refine K_gf 19 (.ref 6) rfl rfl kd_178 rfl rfl rfl ?_
  refine K_gf 22 (.int (i32 (m3.1 206))) rfl rfl kd_6 rfl rfl rfl ?_
  refine T_ld 25 (.int (i32 256)) rfl (fun _ => rfl) ?_
  refine T_icmp 41 28 rfl rfl rfl (r32 (by omega) (by omega)) ⟨by decide, by decide⟩ (fun (h197 : (m3.1 206) ≠ 256) => ?_) (fun (h197 : ¬ ((m3.1 206) ≠ 256)) => ?_)
  · skip
    refine T_ld 42 (.int (i32 (-1))) rfl (fun _ => rfl) ?_
    refine T_sto 43 [(2, .int (i32 (-1))), (1, .int (i32 (m3.1 207))), (0, .ref 178)] rfl (fun _ => rfl) ?_
    refine T_ld 44 (.int (i32 (-1))) rfl (fun _ => rfl) ?_
    refine T_if 76 47 rfl rfl rfl ⟨by decide, by decide⟩ (fun _ => ?_) (fun h198 => absurd (show ((-1) : Int) < 0 by decide) h198)
    refine T_ld 77 (.ref 178) rfl (fun _ => rfl) ?_
    refine K_gf 80 (.ref 6) rfl rfl kd_178 rfl rfl rfl ?_
    refine T_ld 83 (.int (i32 304)) rfl (fun _ => rfl) ?_
    refine T_ld 84 (.ref 178) rfl (fun _ => rfl) ?_
    refine K_gf 87 (.ref 31) rfl rfl kd_178 rfl rfl rfl ?_
    refine K_gf 90 (.int (i32 (m.1 221))) rfl rfl kd_31 rfl (kval_c2 (k := 221) (F := fun x => .int (i32 x)) rfl (show (m3.1 221) = (m.1 221) from (fr1 Fm3 221 rfl))) rfl ?_
    refine T_ld 92 (.int (i32 16)) rfl (fun _ => rfl) ?_
    refine T_callx 95 75 [.ref 6, .int (i32 304), .int (i32 (m.1 221)), .int (i32 16)] [] rfl (fun _ => rfl) rfl rfl (c_tx_makeNew w (mO m3 [] []) c N D (by omega) Tm3 304 (m.1 221) 16 ⟨by decide, by decide⟩ (r32 (by omega) (by omega)) ⟨by decide, by decide⟩ (show 0 ≤ (304 : Int) ∧ (304 : Int) ≤ 310 by omega) (show 0 ≤ (m.1 221) ∧ (16 : Int) ≤ 16 by omega)) (fun rr199 k200 => ?_)
    rcases k200 with ⟨m201, Tm201, Fm201, h202, h203, h204, rfl⟩ | ⟨xx207, m205, hx206, Tm205, Fm205, rfl⟩
    rotate_left
    · skip
      refine Or.inr ⟨_, _, _, _, rfl, ?_⟩
      exact Or.inr ⟨xx207, (mO m205 [] []), (hx206), Tm205, (fr_m (fr_s Fm205 (fr_m (fr_s Fm3 (fr_m fr_0 rfl rfl) rfl rfl) rfl rfl) rfl rfl) rfl rfl), rfl⟩
    refine Or.inl ⟨_, _, _, _, rfl, ?_⟩
    refine K_nb (st' := []) rfl ?_
    have g208 : 0 ≤ m201.1 203 ∧ m201.1 203 ≤ 90 := Tm201.1 203
    have g209 : (-1) ≤ m201.1 206 ∧ m201.1 206 ≤ 65535 := Tm201.1 206
    have g210 : 0 ≤ m201.1 207 ∧ m201.1 207 ≤ 4001 := Tm201.1 207
    replace h202 : (m.1 221) < (16 : Int) := h202
    replace h203 : KMk (m3.1 203) (m201.1 203) (m3.2 8) (m201.2 8) (m3.2 9) (m201.2 9) (304 : Int) (m.1 221) := h203
    rewrite [(show (m3.1 203) = (m.1 203) from (fr1 Fm3 203 rfl)), (show (m3.2 8) = (m.2 8) from (fr2 Fm3 8 rfl)), (show (m3.2 9) = (m.2 9) from (fr2 Fm3 9 rfl))] at h203
    have hMk := h203
    replace h204 : (m3.1 213) = 0 := h204
    rewrite [(show (m3.1 213) = (m.1 213) from (fr1 Fm3 213 rfl))] at h204
    refine T_ld 96 (.ref 178) rfl (fun _ => rfl) ?_
    refine K_gf 99 (.ref 31) rfl rfl kd_178 rfl rfl rfl ?_
    refine T_ld 100 (.int (i32 (m3.1 207))) rfl (fun _ => rfl) ?_
    refine T_callx 103 88 [.ref 31, .int (i32 (m3.1 207))] [] rfl (fun _ => rfl) rfl rfl (c_ss_add w (mO m201 [] []) c N D (by omega) Tm201 (m3.1 207) (r32 (by omega) (by omega)) (show (m201.1 221) ≤ 15 by rewrite [(show (m201.1 221) = (m.1 221) from ((fr1 Fm201 221 rfl).trans (fr1 Fm3 221 rfl)))]; omega) (show 0 ≤ (m3.1 207) ∧ (m3.1 207) ≤ 4001 by omega)) (fun rr211 k212 => ?_)
    obtain ⟨m213, sa, Tm213, Fm213, g214, h215, h216, h217, rfl⟩ := k212
    refine Or.inl ⟨_, _, _, _, rfl, ?_⟩
    refine K_nb (st' := [.int (i32 sa)]) rfl ?_
    obtain ⟨g214a, g214b⟩ := g214
    have g218 : 0 ≤ m213.1 221 ∧ m213.1 221 ≤ 16 := Tm213.1 221
    replace h215 : sa = (m201.1 221) := h215
    rewrite [(show (m201.1 221) = (m.1 221) from ((fr1 Fm201 221 rfl).trans (fr1 Fm3 221 rfl)))] at h215
    replace h216 : (m213.1 221) = (m201.1 221) + 1 := h216
    rewrite [(show (m201.1 221) = (m.1 221) from ((fr1 Fm201 221 rfl).trans (fr1 Fm3 221 rfl)))] at h216
    replace h217 : (m213.2 36) = upI (m201.2 36) (m201.1 221) (-1) := h217
    rewrite [(show (m201.2 36) = (m.2 36) from ((fr2 Fm201 36 rfl).trans (fr2 Fm3 36 rfl))), (show (m201.1 221) = (m.1 221) from ((fr1 Fm201 221 rfl).trans (fr1 Fm3 221 rfl)))] at h217
    have hSa := h217
    have pKP : KPp (m201.1 203) (m201.2 8) (m201.2 9) (m.1 214) (m.1 215) (m.1 216) (m.1 217) (m213.1 221) (m.1 223) (m.1 219) := KPp_mk pKP hMk (by omega) (by omega) (by omega) (by omega) (by omega) (by omega) (by omega) (by omega)
    have hSS : SSp (m.1 222) (m213.2 36) (m213.1 221) := SS_add hSS (by omega) hSa (by omega)
    refine T_sto 104 [(2, .int (i32 sa)), (1, .int (i32 (m3.1 207))), (0, .ref 178)] rfl (fun _ => rfl) ?_
    refine Tm_lv (a := [(0, .ref 178), (1, .int (i32 (m3.1 207))), (2, .int (i32 sa))]) rfl rfl ⟨rfl, rfl, rfl, trivial⟩ ?_
    exact J104_12 sa (mO m213 [] []) (r32 (by omega) (by omega)) Tm213 (fr_m (fr_s Fm213 (fr_m (fr_s Fm201 (fr_m fr_0 rfl rfl) rfl rfl) rfl rfl) rfl rfl) rfl rfl) (show KPp (m213.1 203) (m213.2 8) (m213.2 9) (m.1 214) (m.1 215) (m.1 216) (m.1 217) (m213.1 221) (m.1 223) (m.1 219) by rewrite [(show (m213.1 203) = (m201.1 203) from (fr1 Fm213 203 rfl)), (show (m213.2 8) = (m201.2 8) from (fr2 Fm213 8 rfl)), (show (m213.2 9) = (m201.2 9) from (fr2 Fm213 9 rfl))]; exact pKP) (show SSp (m.1 222) (m213.2 36) (m213.1 221) by exact hSS) (show 0 ≤ sa ∧ sa < (m213.1 221) by omega) (show (m213.2 36) sa = -1 by first | omega | exact up_at hSa (by omega))
  · skip
    refine T_ld 29 (.ref 178) rfl (fun _ => rfl) ?_
    refine K_gf 32 (.ref 6) rfl rfl kd_178 rfl rfl rfl ?_
    refine T_ld 35 (.int (i32 304)) rfl (fun _ => rfl) ?_
    refine T_callx 38 84 [.ref 6, .int (i32 304)] [] rfl (fun _ => rfl) rfl rfl (c_tx_indexOf w (mO m3 [] []) c N D (by omega) Tm3 304 ⟨by decide, by decide⟩) (fun rr219 k220 => ?_)
    obtain ⟨io, g221, h222, rfl⟩ := k220
    refine Or.inl ⟨_, _, _, _, rfl, ?_⟩
    refine T_ns (st' := [.int (i32 io)]) rfl ?_
    obtain ⟨g221a, g221b⟩ := g221
    replace h222 : io = -1 ∨ KNo (m3.1 203) (m3.2 8) (m3.2 9) (304 : Int) io := h222
    rewrite [(show (m3.1 203) = (m.1 203) from (fr1 Fm3 203 rfl)), (show (m3.2 8) = (m.2 8) from (fr2 Fm3 8 rfl)), (show (m3.2 9) = (m.2 9) from (fr2 Fm3 9 rfl))] at h222
    have hIo := h222
    refine T_goto 42 rfl (fun _ => rfl) ?_
    refine T_sto 43 [(2, .int (i32 io)), (1, .int (i32 (m3.1 207))), (0, .ref 178)] rfl (fun _ => rfl) ?_
    refine T_ld 44 (.int (i32 io)) rfl (fun _ => rfl) ?_
    refine T_if 76 47 rfl rfl rfl (r32 (by omega) (by omega)) (fun (h223 : io < 0) => ?_) (fun (h223 : ¬ (io < 0)) => ?_)
    · skip
      refine T_ld 77 (.ref 178) rfl (fun _ => rfl) ?_
      refine K_gf 80 (.ref 6) rfl rfl kd_178 rfl rfl rfl ?_
      refine T_ld 83 (.int (i32 304)) rfl (fun _ => rfl) ?_
      refine T_ld 84 (.ref 178) rfl (fun _ => rfl) ?_
      refine K_gf 87 (.ref 31) rfl rfl kd_178 rfl rfl rfl ?_
      refine K_gf 90 (.int (i32 (m.1 221))) rfl rfl kd_31 rfl (kval_c2 (k := 221) (F := fun x => .int (i32 x)) rfl (show (m3.1 221) = (m.1 221) from (fr1 Fm3 221 rfl))) rfl ?_
      refine T_ld 92 (.int (i32 16)) rfl (fun _ => rfl) ?_
      refine T_callx 95 75 [.ref 6, .int (i32 304), .int (i32 (m.1 221)), .int (i32 16)] [] rfl (fun _ => rfl) rfl rfl (c_tx_makeNew w (mO m3 [] []) c N D (by omega) Tm3 304 (m.1 221) 16 ⟨by decide, by decide⟩ (r32 (by omega) (by omega)) ⟨by decide, by decide⟩ (show 0 ≤ (304 : Int) ∧ (304 : Int) ≤ 310 by omega) (show 0 ≤ (m.1 221) ∧ (16 : Int) ≤ 16 by omega)) (fun rr224 k225 => ?_)
      rcases k225 with ⟨m226, Tm226, Fm226, h227, h228, h229, rfl⟩ | ⟨xx232, m230, hx231, Tm230, Fm230, rfl⟩
      rotate_left
      · skip
        refine Or.inr ⟨_, _, _, _, rfl, ?_⟩
        exact Or.inr ⟨xx232, (mO m230 [] []), (hx231), Tm230, (fr_m (fr_s Fm230 (fr_m (fr_s Fm3 (fr_m fr_0 rfl rfl) rfl rfl) rfl rfl) rfl rfl) rfl rfl), rfl⟩
      refine Or.inl ⟨_, _, _, _, rfl, ?_⟩
      refine K_nb (st' := []) rfl ?_
      have g233 : 0 ≤ m226.1 203 ∧ m226.1 203 ≤ 90 := Tm226.1 203
      have g234 : (-1) ≤ m226.1 206 ∧ m226.1 206 ≤ 65535 := Tm226.1 206
      have g235 : 0 ≤ m226.1 207 ∧ m226.1 207 ≤ 4001 := Tm226.1 207
      replace h227 : (m.1 221) < (16 : Int) := h227
      replace h228 : KMk (m3.1 203) (m226.1 203) (m3.2 8) (m226.2 8) (m3.2 9) (m226.2 9) (304 : Int) (m.1 221) := h228
      rewrite [(show (m3.1 203) = (m.1 203) from (fr1 Fm3 203 rfl)), (show (m3.2 8) = (m.2 8) from (fr2 Fm3 8 rfl)), (show (m3.2 9) = (m.2 9) from (fr2 Fm3 9 rfl))] at h228
      have hMk := h228
      replace h229 : (m3.1 213) = 0 := h229
      rewrite [(show (m3.1 213) = (m.1 213) from (fr1 Fm3 213 rfl))] at h229
      refine T_ld 96 (.ref 178) rfl (fun _ => rfl) ?_
      refine K_gf 99 (.ref 31) rfl rfl kd_178 rfl rfl rfl ?_
      refine T_ld 100 (.int (i32 (m3.1 207))) rfl (fun _ => rfl) ?_
      refine T_callx 103 88 [.ref 31, .int (i32 (m3.1 207))] [] rfl (fun _ => rfl) rfl rfl (c_ss_add w (mO m226 [] []) c N D (by omega) Tm226 (m3.1 207) (r32 (by omega) (by omega)) (show (m226.1 221) ≤ 15 by rewrite [(show (m226.1 221) = (m.1 221) from ((fr1 Fm226 221 rfl).trans (fr1 Fm3 221 rfl)))]; omega) (show 0 ≤ (m3.1 207) ∧ (m3.1 207) ≤ 4001 by omega)) (fun rr236 k237 => ?_)
      obtain ⟨m238, sa, Tm238, Fm238, g239, h240, h241, h242, rfl⟩ := k237
      refine Or.inl ⟨_, _, _, _, rfl, ?_⟩
      refine K_nb (st' := [.int (i32 sa)]) rfl ?_
      obtain ⟨g239a, g239b⟩ := g239
      have g243 : 0 ≤ m238.1 221 ∧ m238.1 221 ≤ 16 := Tm238.1 221
      replace h240 : sa = (m226.1 221) := h240
      rewrite [(show (m226.1 221) = (m.1 221) from ((fr1 Fm226 221 rfl).trans (fr1 Fm3 221 rfl)))] at h240
      replace h241 : (m238.1 221) = (m226.1 221) + 1 := h241
      rewrite [(show (m226.1 221) = (m.1 221) from ((fr1 Fm226 221 rfl).trans (fr1 Fm3 221 rfl)))] at h241
      replace h242 : (m238.2 36) = upI (m226.2 36) (m226.1 221) (-1) := h242
      rewrite [(show (m226.2 36) = (m.2 36) from ((fr2 Fm226 36 rfl).trans (fr2 Fm3 36 rfl))), (show (m226.1 221) = (m.1 221) from ((fr1 Fm226 221 rfl).trans (fr1 Fm3 221 rfl)))] at h242
      have hSa := h242
      have pKP : KPp (m226.1 203) (m226.2 8) (m226.2 9) (m.1 214) (m.1 215) (m.1 216) (m.1 217) (m238.1 221) (m.1 223) (m.1 219) := KPp_mk pKP hMk (by omega) (by omega) (by omega) (by omega) (by omega) (by omega) (by omega) (by omega)
      have hSS : SSp (m.1 222) (m238.2 36) (m238.1 221) := SS_add hSS (by omega) hSa (by omega)
      refine T_sto 104 [(2, .int (i32 sa)), (1, .int (i32 (m3.1 207))), (0, .ref 178)] rfl (fun _ => rfl) ?_
      refine Tm_lv (a := [(0, .ref 178), (1, .int (i32 (m3.1 207))), (2, .int (i32 sa))]) rfl rfl ⟨rfl, rfl, rfl, trivial⟩ ?_
      exact J104_12 sa (mO m238 [] []) (r32 (by omega) (by omega)) Tm238 (fr_m (fr_s Fm238 (fr_m (fr_s Fm226 (fr_m fr_0 rfl rfl) rfl rfl) rfl rfl) rfl rfl) rfl rfl) (show KPp (m238.1 203) (m238.2 8) (m238.2 9) (m.1 214) (m.1 215) (m.1 216) (m.1 217) (m238.1 221) (m.1 223) (m.1 219) by rewrite [(show (m238.1 203) = (m226.1 203) from (fr1 Fm238 203 rfl)), (show (m238.2 8) = (m226.2 8) from (fr2 Fm238 8 rfl)), (show (m238.2 9) = (m226.2 9) from (fr2 Fm238 9 rfl))]; exact pKP) (show SSp (m.1 222) (m238.2 36) (m238.1 221) by exact hSS) (show 0 ≤ sa ∧ sa < (m238.1 221) by omega) (show (m238.2 36) sa = -1 by first | omega | exact up_at hSa (by omega))
    · skip
      refine T_ld 48 (.int (i32 io)) rfl (fun _ => rfl) ?_
      refine T_ld 50 (.int (i32 16)) rfl (fun _ => rfl) ?_
      refine T_icmp 76 53 rfl rfl rfl (r32 (by omega) (by omega)) ⟨by decide, by decide⟩ (fun (h244 : (16 : Int) ≤ io) => ?_) (fun (h244 : ¬ ((16 : Int) ≤ io)) => ?_)
      · skip
        refine T_ld 77 (.ref 178) rfl (fun _ => rfl) ?_
        refine K_gf 80 (.ref 6) rfl rfl kd_178 rfl rfl rfl ?_
        refine T_ld 83 (.int (i32 304)) rfl (fun _ => rfl) ?_
        refine T_ld 84 (.ref 178) rfl (fun _ => rfl) ?_
        refine K_gf 87 (.ref 31) rfl rfl kd_178 rfl rfl rfl ?_
        refine K_gf 90 (.int (i32 (m.1 221))) rfl rfl kd_31 rfl (kval_c2 (k := 221) (F := fun x => .int (i32 x)) rfl (show (m3.1 221) = (m.1 221) from (fr1 Fm3 221 rfl))) rfl ?_
        refine T_ld 92 (.int (i32 16)) rfl (fun _ => rfl) ?_
        refine T_callx 95 75 [.ref 6, .int (i32 304), .int (i32 (m.1 221)), .int (i32 16)] [] rfl (fun _ => rfl) rfl rfl (c_tx_makeNew w (mO m3 [] []) c N D (by omega) Tm3 304 (m.1 221) 16 ⟨by decide, by decide⟩ (r32 (by omega) (by omega)) ⟨by decide, by decide⟩ (show 0 ≤ (304 : Int) ∧ (304 : Int) ≤ 310 by omega) (show 0 ≤ (m.1 221) ∧ (16 : Int) ≤ 16 by omega)) (fun rr245 k246 => ?_)
        rcases k246 with ⟨m247, Tm247, Fm247, h248, h249, h250, rfl⟩ | ⟨xx253, m251, hx252, Tm251, Fm251, rfl⟩
        rotate_left
        · skip
          refine Or.inr ⟨_, _, _, _, rfl, ?_⟩
          exact Or.inr ⟨xx253, (mO m251 [] []), (hx252), Tm251, (fr_m (fr_s Fm251 (fr_m (fr_s Fm3 (fr_m fr_0 rfl rfl) rfl rfl) rfl rfl) rfl rfl) rfl rfl), rfl⟩
        refine Or.inl ⟨_, _, _, _, rfl, ?_⟩
        refine K_nb (st' := []) rfl ?_
        have g254 : 0 ≤ m247.1 203 ∧ m247.1 203 ≤ 90 := Tm247.1 203
        have g255 : (-1) ≤ m247.1 206 ∧ m247.1 206 ≤ 65535 := Tm247.1 206
        have g256 : 0 ≤ m247.1 207 ∧ m247.1 207 ≤ 4001 := Tm247.1 207
        replace h248 : (m.1 221) < (16 : Int) := h248
        replace h249 : KMk (m3.1 203) (m247.1 203) (m3.2 8) (m247.2 8) (m3.2 9) (m247.2 9) (304 : Int) (m.1 221) := h249
        rewrite [(show (m3.1 203) = (m.1 203) from (fr1 Fm3 203 rfl)), (show (m3.2 8) = (m.2 8) from (fr2 Fm3 8 rfl)), (show (m3.2 9) = (m.2 9) from (fr2 Fm3 9 rfl))] at h249
        have hMk := h249
        replace h250 : (m3.1 213) = 0 := h250
        rewrite [(show (m3.1 213) = (m.1 213) from (fr1 Fm3 213 rfl))] at h250
        refine T_ld 96 (.ref 178) rfl (fun _ => rfl) ?_
        refine K_gf 99 (.ref 31) rfl rfl kd_178 rfl rfl rfl ?_
        refine T_ld 100 (.int (i32 (m3.1 207))) rfl (fun _ => rfl) ?_
        refine T_callx 103 88 [.ref 31, .int (i32 (m3.1 207))] [] rfl (fun _ => rfl) rfl rfl (c_ss_add w (mO m247 [] []) c N D (by omega) Tm247 (m3.1 207) (r32 (by omega) (by omega)) (show (m247.1 221) ≤ 15 by rewrite [(show (m247.1 221) = (m.1 221) from ((fr1 Fm247 221 rfl).trans (fr1 Fm3 221 rfl)))]; omega) (show 0 ≤ (m3.1 207) ∧ (m3.1 207) ≤ 4001 by omega)) (fun rr257 k258 => ?_)
        obtain ⟨m259, sa, Tm259, Fm259, g260, h261, h262, h263, rfl⟩ := k258
        refine Or.inl ⟨_, _, _, _, rfl, ?_⟩
        refine K_nb (st' := [.int (i32 sa)]) rfl ?_
        obtain ⟨g260a, g260b⟩ := g260
        have g264 : 0 ≤ m259.1 221 ∧ m259.1 221 ≤ 16 := Tm259.1 221
        replace h261 : sa = (m247.1 221) := h261
        rewrite [(show (m247.1 221) = (m.1 221) from ((fr1 Fm247 221 rfl).trans (fr1 Fm3 221 rfl)))] at h261
        replace h262 : (m259.1 221) = (m247.1 221) + 1 := h262
        rewrite [(show (m247.1 221) = (m.1 221) from ((fr1 Fm247 221 rfl).trans (fr1 Fm3 221 rfl)))] at h262
        replace h263 : (m259.2 36) = upI (m247.2 36) (m247.1 221) (-1) := h263
        rewrite [(show (m247.2 36) = (m.2 36) from ((fr2 Fm247 36 rfl).trans (fr2 Fm3 36 rfl))), (show (m247.1 221) = (m.1 221) from ((fr1 Fm247 221 rfl).trans (fr1 Fm3 221 rfl)))] at h263
        have hSa := h263
        have pKP : KPp (m247.1 203) (m247.2 8) (m247.2 9) (m.1 214) (m.1 215) (m.1 216) (m.1 217) (m259.1 221) (m.1 223) (m.1 219) := KPp_mk pKP hMk (by omega) (by omega) (by omega) (by omega) (by omega) (by omega) (by omega) (by omega)
        have hSS : SSp (m.1 222) (m259.2 36) (m259.1 221) := SS_add hSS (by omega) hSa (by omega)
        refine T_sto 104 [(2, .int (i32 sa)), (1, .int (i32 (m3.1 207))), (0, .ref 178)] rfl (fun _ => rfl) ?_
        refine Tm_lv (a := [(0, .ref 178), (1, .int (i32 (m3.1 207))), (2, .int (i32 sa))]) rfl rfl ⟨rfl, rfl, rfl, trivial⟩ ?_
        exact J104_12 sa (mO m259 [] []) (r32 (by omega) (by omega)) Tm259 (fr_m (fr_s Fm259 (fr_m (fr_s Fm247 (fr_m fr_0 rfl rfl) rfl rfl) rfl rfl) rfl rfl) rfl rfl) (show KPp (m259.1 203) (m259.2 8) (m259.2 9) (m.1 214) (m.1 215) (m.1 216) (m.1 217) (m259.1 221) (m.1 223) (m.1 219) by rewrite [(show (m259.1 203) = (m247.1 203) from (fr1 Fm259 203 rfl)), (show (m259.2 8) = (m247.2 8) from (fr2 Fm259 8 rfl)), (show (m259.2 9) = (m247.2 9) from (fr2 Fm259 9 rfl))]; exact pKP) (show SSp (m.1 222) (m259.2 36) (m259.1 221) by exact hSS) (show 0 ≤ sa ∧ sa < (m259.1 221) by omega) (show (m259.2 36) sa = -1 by first | omega | exact up_at hSa (by omega))
      · skip
        refine T_ld 54 (.ref 178) rfl (fun _ => rfl) ?_
        refine K_gf 57 (.ref 31) rfl rfl kd_178 rfl rfl rfl ?_
        refine K_gf 60 (.ref 42) rfl rfl kd_31 rfl rfl rfl ?_
        refine T_ld 61 (.int (i32 io)) rfl (fun _ => rfl) ?_
        refine K_iald 62 36 (m.2 36) rfl rfl rfl (by omega) (show io < (16 : Int) by omega) (show (m3.2 36) = (m.2 36) from (fr2 Fm3 36 rfl)) ?_
        have e265 : (-1) ≤ (m.2 36) io ∧ (m.2 36) io ≤ 4001 := (hT.2.1 36) io
        refine T_ld 63 (.int (i32 (-1))) rfl (fun _ => rfl) ?_
        refine T_icmp 76 66 rfl rfl rfl (r32 (by omega) (by omega)) ⟨by decide, by decide⟩ (fun (h266 : (m.2 36) io ≠ (-1)) => ?_) (fun (h266 : ¬ ((m.2 36) io ≠ (-1))) => ?_)
        · skip
          refine T_ld 77 (.ref 178) rfl (fun _ => rfl) ?_
          refine K_gf 80 (.ref 6) rfl rfl kd_178 rfl rfl rfl ?_
          refine T_ld 83 (.int (i32 304)) rfl (fun _ => rfl) ?_
          refine T_ld 84 (.ref 178) rfl (fun _ => rfl) ?_
          refine K_gf 87 (.ref 31) rfl rfl kd_178 rfl rfl rfl ?_
          refine K_gf 90 (.int (i32 (m.1 221))) rfl rfl kd_31 rfl (kval_c2 (k := 221) (F := fun x => .int (i32 x)) rfl (show (m3.1 221) = (m.1 221) from (fr1 Fm3 221 rfl))) rfl ?_
          refine T_ld 92 (.int (i32 16)) rfl (fun _ => rfl) ?_
          refine T_callx 95 75 [.ref 6, .int (i32 304), .int (i32 (m.1 221)), .int (i32 16)] [] rfl (fun _ => rfl) rfl rfl (c_tx_makeNew w (mO m3 [] []) c N D (by omega) Tm3 304 (m.1 221) 16 ⟨by decide, by decide⟩ (r32 (by omega) (by omega)) ⟨by decide, by decide⟩ (show 0 ≤ (304 : Int) ∧ (304 : Int) ≤ 310 by omega) (show 0 ≤ (m.1 221) ∧ (16 : Int) ≤ 16 by omega)) (fun rr267 k268 => ?_)
          rcases k268 with ⟨m269, Tm269, Fm269, h270, h271, h272, rfl⟩ | ⟨xx275, m273, hx274, Tm273, Fm273, rfl⟩
          rotate_left
          · skip
            refine Or.inr ⟨_, _, _, _, rfl, ?_⟩
            exact Or.inr ⟨xx275, (mO m273 [] []), (hx274), Tm273, (fr_m (fr_s Fm273 (fr_m (fr_s Fm3 (fr_m fr_0 rfl rfl) rfl rfl) rfl rfl) rfl rfl) rfl rfl), rfl⟩
          refine Or.inl ⟨_, _, _, _, rfl, ?_⟩
          refine K_nb (st' := []) rfl ?_
          have g276 : 0 ≤ m269.1 203 ∧ m269.1 203 ≤ 90 := Tm269.1 203
          have g277 : (-1) ≤ m269.1 206 ∧ m269.1 206 ≤ 65535 := Tm269.1 206
          have g278 : 0 ≤ m269.1 207 ∧ m269.1 207 ≤ 4001 := Tm269.1 207
          replace h270 : (m.1 221) < (16 : Int) := h270
          replace h271 : KMk (m3.1 203) (m269.1 203) (m3.2 8) (m269.2 8) (m3.2 9) (m269.2 9) (304 : Int) (m.1 221) := h271
          rewrite [(show (m3.1 203) = (m.1 203) from (fr1 Fm3 203 rfl)), (show (m3.2 8) = (m.2 8) from (fr2 Fm3 8 rfl)), (show (m3.2 9) = (m.2 9) from (fr2 Fm3 9 rfl))] at h271
          have hMk := h271
          replace h272 : (m3.1 213) = 0 := h272
          rewrite [(show (m3.1 213) = (m.1 213) from (fr1 Fm3 213 rfl))] at h272
          refine T_ld 96 (.ref 178) rfl (fun _ => rfl) ?_
          refine K_gf 99 (.ref 31) rfl rfl kd_178 rfl rfl rfl ?_
          refine T_ld 100 (.int (i32 (m3.1 207))) rfl (fun _ => rfl) ?_
          refine T_callx 103 88 [.ref 31, .int (i32 (m3.1 207))] [] rfl (fun _ => rfl) rfl rfl (c_ss_add w (mO m269 [] []) c N D (by omega) Tm269 (m3.1 207) (r32 (by omega) (by omega)) (show (m269.1 221) ≤ 15 by rewrite [(show (m269.1 221) = (m.1 221) from ((fr1 Fm269 221 rfl).trans (fr1 Fm3 221 rfl)))]; omega) (show 0 ≤ (m3.1 207) ∧ (m3.1 207) ≤ 4001 by omega)) (fun rr279 k280 => ?_)
          obtain ⟨m281, sa, Tm281, Fm281, g282, h283, h284, h285, rfl⟩ := k280
          refine Or.inl ⟨_, _, _, _, rfl, ?_⟩
          refine K_nb (st' := [.int (i32 sa)]) rfl ?_
          obtain ⟨g282a, g282b⟩ := g282
          have g286 : 0 ≤ m281.1 221 ∧ m281.1 221 ≤ 16 := Tm281.1 221
          replace h283 : sa = (m269.1 221) := h283
          rewrite [(show (m269.1 221) = (m.1 221) from ((fr1 Fm269 221 rfl).trans (fr1 Fm3 221 rfl)))] at h283
          replace h284 : (m281.1 221) = (m269.1 221) + 1 := h284
          rewrite [(show (m269.1 221) = (m.1 221) from ((fr1 Fm269 221 rfl).trans (fr1 Fm3 221 rfl)))] at h284
          replace h285 : (m281.2 36) = upI (m269.2 36) (m269.1 221) (-1) := h285
          rewrite [(show (m269.2 36) = (m.2 36) from ((fr2 Fm269 36 rfl).trans (fr2 Fm3 36 rfl))), (show (m269.1 221) = (m.1 221) from ((fr1 Fm269 221 rfl).trans (fr1 Fm3 221 rfl)))] at h285
          have hSa := h285
          have pKP : KPp (m269.1 203) (m269.2 8) (m269.2 9) (m.1 214) (m.1 215) (m.1 216) (m.1 217) (m281.1 221) (m.1 223) (m.1 219) := KPp_mk pKP hMk (by omega) (by omega) (by omega) (by omega) (by omega) (by omega) (by omega) (by omega)
          have hSS : SSp (m.1 222) (m281.2 36) (m281.1 221) := SS_add hSS (by omega) hSa (by omega)
          refine T_sto 104 [(2, .int (i32 sa)), (1, .int (i32 (m3.1 207))), (0, .ref 178)] rfl (fun _ => rfl) ?_
          refine Tm_lv (a := [(0, .ref 178), (1, .int (i32 (m3.1 207))), (2, .int (i32 sa))]) rfl rfl ⟨rfl, rfl, rfl, trivial⟩ ?_
          exact J104_12 sa (mO m281 [] []) (r32 (by omega) (by omega)) Tm281 (fr_m (fr_s Fm281 (fr_m (fr_s Fm269 (fr_m fr_0 rfl rfl) rfl rfl) rfl rfl) rfl rfl) rfl rfl) (show KPp (m281.1 203) (m281.2 8) (m281.2 9) (m.1 214) (m.1 215) (m.1 216) (m.1 217) (m281.1 221) (m.1 223) (m.1 219) by rewrite [(show (m281.1 203) = (m269.1 203) from (fr1 Fm281 203 rfl)), (show (m281.2 8) = (m269.2 8) from (fr2 Fm281 8 rfl)), (show (m281.2 9) = (m269.2 9) from (fr2 Fm281 9 rfl))]; exact pKP) (show SSp (m.1 222) (m281.2 36) (m281.1 221) by exact hSS) (show 0 ≤ sa ∧ sa < (m281.1 221) by omega) (show (m281.2 36) sa = -1 by first | omega | exact up_at hSa (by omega))
        · skip
          have hkn := KNo_w pKP (hIo.elim (fun h => absurd h (by omega)) (fun h => h))
          refine T_ld 67 (.ref 178) rfl (fun _ => rfl) ?_
          refine K_gf 70 (.ref 6) rfl rfl kd_178 rfl rfl rfl ?_
          refine T_callx 73 50 [.ref 6] [] rfl (fun _ => rfl) rfl rfl (c_tx_advance w (mO m3 [] []) c N D (by omega) Tm3 ) (fun rr287 k288 => ?_)
          rcases k288 with ⟨m289, Tm289, Fm289, h290, rfl⟩ | ⟨xx293, m291, hx292, Tm291, Fm291, rfl⟩
          rotate_left
          · skip
            refine Or.inr ⟨_, _, _, _, rfl, ?_⟩
            exact Or.inr ⟨xx293, (mO m291 [] []), (hx292), Tm291, (fr_m (fr_s Fm291 (fr_m (fr_s Fm3 (fr_m fr_0 rfl rfl) rfl rfl) rfl rfl) rfl rfl) rfl rfl), rfl⟩
          refine Or.inl ⟨_, _, _, _, rfl, ?_⟩
          refine K_nb (st' := []) rfl ?_
          have g294 : (-1) ≤ m289.1 206 ∧ m289.1 206 ≤ 65535 := Tm289.1 206
          have g295 : 0 ≤ m289.1 207 ∧ m289.1 207 ≤ 4001 := Tm289.1 207
          replace h290 : (m3.1 213) = 0 := h290
          rewrite [(show (m3.1 213) = (m.1 213) from (fr1 Fm3 213 rfl))] at h290
          refine T_goto 104 rfl (fun _ => rfl) ?_
          refine Tm_lv (a := [(0, .ref 178), (1, .int (i32 (m3.1 207))), (2, .int (i32 io))]) rfl rfl ⟨rfl, rfl, rfl, trivial⟩ ?_
          exact J104_12 io (mO m289 [] []) (r32 (by omega) (by omega)) Tm289 (fr_m (fr_s Fm289 (fr_m fr_0 rfl rfl) rfl rfl) rfl rfl) (show KPp (m289.1 203) (m289.2 8) (m289.2 9) (m.1 214) (m.1 215) (m.1 216) (m.1 217) (m289.1 221) (m.1 223) (m.1 219) by rewrite [(show (m289.1 203) = (m.1 203) from ((fr1 Fm289 203 rfl).trans (fr1 Fm3 203 rfl))), (show (m289.2 8) = (m.2 8) from ((fr2 Fm289 8 rfl).trans (fr2 Fm3 8 rfl))), (show (m289.2 9) = (m.2 9) from ((fr2 Fm289 9 rfl).trans (fr2 Fm3 9 rfl))), (show (m289.1 221) = (m.1 221) from ((fr1 Fm289 221 rfl).trans (fr1 Fm3 221 rfl)))]; exact pKP) (show SSp (m.1 222) (m289.2 36) (m289.1 221) by rewrite [(show (m289.2 36) = (m.2 36) from ((fr2 Fm289 36 rfl).trans (fr2 Fm3 36 rfl))), (show (m289.1 221) = (m.1 221) from ((fr1 Fm289 221 rfl).trans (fr1 Fm3 221 rfl)))]; exact hSS) (show 0 ≤ io ∧ io < (m289.1 221) by rewrite [(show (m289.1 221) = (m.1 221) from ((fr1 Fm289 221 rfl).trans (fr1 Fm3 221 rfl)))]; omega) (show (m289.2 36) io = -1 by rewrite [(show (m289.2 36) = (m.2 36) from ((fr2 Fm289 36 rfl).trans (fr2 Fm3 36 rfl)))]; first | omega | exact up_at hSa (by omega))
