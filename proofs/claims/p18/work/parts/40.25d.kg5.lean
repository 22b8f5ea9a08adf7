def fF_rd_field : List Nat := [205, 206, 207, 208, 209, 210, 211, 212]
def fA_rd_field : List Nat := [10, 11, 12]
def Q_rd_field (m : mR) (c : Nat → Option am_C) (N : Nat) (h : Int) (i : Int) : ag_Re af_T → Prop := fun R => (∃ (M : mR), KTy M ∧ fr fF_rd_field fA_rd_field m M ∧ (HBp h (M.2 10)) ∧ R = (.inl (none), (khp M c, N), 0, 0)) ∨ (∃ (x : Nat) (M : mR), (x = 0) ∧ (KTy M) ∧ (fr fF_rd_field fA_rd_field m M) ∧ R = (.inr x, (khp M c, N), 1, 6))
set_option maxHeartbeats 3000000 in
theorem c_rd_field (w : wX) (m : mR) (c : Nat → Option am_C) (N D : Nat) (hD : 9 ≤ D) (hT : KTy m) (h : Int) (i : Int) (qh : R32 h) (qi : R32 i) (p0 : 0 ≤ h ∧ h ≤ 11) (p1 : 0 ≤ i ∧ i ≤ 16) (hHB : HBp h (m.2 10)) : TC w D 79 [.ref 178, .int (i32 h), .int (i32 i)] (khp m c, N) (Q_rd_field m c N h i) := by
  obtain ⟨D, rfl⟩ : ∃ k, D = k + 1 := ⟨D - 1, by omega⟩
  obtain ⟨qha, qhb⟩ := id qh
  obtain ⟨qia, qib⟩ := id qi
  have f206 : (-1) ≤ m.1 206 ∧ m.1 206 ≤ 65535 := hT.1 206
  have f207 : 0 ≤ m.1 207 ∧ m.1 207 ≤ 4001 := hT.1 207
  have f209 : (-9223372036854775808) ≤ m.1 209 ∧ m.1 209 ≤ 9223372036854775807 := hT.1 209
  have f210 : (-9223372036854775808) ≤ m.1 210 ∧ m.1 210 ≤ 9223372036854775807 := hT.1 210
  have f213 : 0 ≤ m.1 213 ∧ m.1 213 ≤ 1 := hT.1 213
  refine Tc_of rfl ?_
  rw [show (khp m c, N) = (khp (mO m [] []) c, N) from by rw [mO_nil m]]
  show TT w D pm_79 (0, [(0, .ref 178), (1, .int (i32 h)), (2, .int (i32 i))], [], (khp (mO m [] []) c, N), 0, 0) (Q_rd_field m c N h i)
  refine T_ld 1 (.ref 178) rfl (fun _ => rfl) ?_
  refine K_gf 4 (.ref 6) rfl rfl kd_178 rfl rfl rfl ?_
  refine K_gf 7 (.int (i32 (m.1 206))) rfl rfl kd_6 rfl rfl rfl ?_
  refine T_ld 10 (.int (i32 256)) rfl (fun _ => rfl) ?_
  refine T_icmp 20 13 rfl rfl rfl (r32 (by omega) (by omega)) ⟨by decide, by decide⟩ (fun (h1 : (m.1 206) = 256) => ?_) (fun (h1 : ¬ ((m.1 206) = 256)) => ?_)
  · skip
    refine T_ld 21 (.int (i32 i)) rfl (fun _ => rfl) ?_
    refine T_ld 23 (.int (i32 16)) rfl (fun _ => rfl) ?_
    refine T_icmp 41 26 rfl rfl rfl (r32 (by omega) (by omega)) ⟨by decide, by decide⟩ (fun (h2 : i < 16) => ?_) (fun (h2 : ¬ (i < 16)) => ?_)
    · skip
      refine T_ld 42 (.ref 178) rfl (fun _ => rfl) ?_
      refine K_gf 45 (.ref 12) rfl rfl kd_178 rfl rfl rfl ?_
      refine T_ld 46 (.int (i32 h)) rfl (fun _ => rfl) ?_
      refine T_ld 47 (.ref 178) rfl (fun _ => rfl) ?_
      refine K_gf 50 (.ref 6) rfl rfl kd_178 rfl rfl rfl ?_
      refine K_gf 53 (.long (i64 (m.1 209))) rfl rfl kd_6 rfl rfl rfl ?_
      refine T_ld 54 (.ref 178) rfl (fun _ => rfl) ?_
      refine K_gf 57 (.ref 6) rfl rfl kd_178 rfl rfl rfl ?_
      refine K_gf 60 (.long (i64 (m.1 210))) rfl rfl kd_6 rfl rfl rfl ?_
      refine T_callx 63 80 [.ref 12, .int (i32 h), .long (i64 (m.1 209)), .long (i64 (m.1 210))] [] rfl (fun _ => rfl) rfl rfl (c_pr_fieldOf w (mO m [] []) c N D (by omega) hT h (m.1 209) (m.1 210) (r32 (by omega) (by omega)) (r64 (by omega) (by omega)) (r64 (by omega) (by omega)) (show 0 ≤ h ∧ h ≤ 11 by omega)) (fun rr3 k4 => ?_)
      obtain ⟨x5, g6, rfl⟩ := k4
      refine Or.inl ⟨_, _, _, _, rfl, ?_⟩
      refine T_ns (st' := [.int (i32 x5)]) rfl ?_
      obtain ⟨g6a, g6b⟩ := g6
      refine T_ld 64 (.int (i32 (-1))) rfl (fun _ => rfl) ?_
      refine T_icmp 82 67 rfl rfl rfl (r32 (by omega) (by omega)) ⟨by decide, by decide⟩ (fun (h7 : x5 = (-1)) => ?_) (fun (h7 : ¬ (x5 = (-1))) => ?_)
      · skip
        refine T_ld 83 (.int (i32 h)) rfl (fun _ => rfl) ?_
        refine T_ld 85 (.int (i32 16)) rfl (fun _ => rfl) ?_
        refine T_imul 86 rfl rfl ?_
        refine T_ld 87 (.int (i32 i)) rfl (fun _ => rfl) ?_
        refine T_iadd 88 rfl rfl ?_
        refine T_sto 89 [(3, .int (i32 ((h * 16) + i))), (0, .ref 178), (1, .int (i32 h)), (2, .int (i32 i))] rfl (fun _ => rfl) ?_
        refine T_ld 90 (.ref 178) rfl (fun _ => rfl) ?_
        refine K_gf 93 (.ref 12) rfl rfl kd_178 rfl rfl rfl ?_
        refine K_gf 96 (.ref 14) rfl rfl kd_12 rfl rfl rfl ?_
        refine T_ld 97 (.int (i32 ((h * 16) + i))) rfl (fun _ => rfl) ?_
        refine T_ld 98 (.ref 178) rfl (fun _ => rfl) ?_
        refine K_gf 101 (.ref 6) rfl rfl kd_178 rfl rfl rfl ?_
        refine K_gf 104 (.long (i64 (m.1 209))) rfl rfl kd_6 rfl rfl rfl ?_
        have G8 : ∀ j, (-9223372036854775808) ≤ (upI (m.2 11) ((h * 16) + i) (m.1 209)) j ∧ (upI (m.2 11) ((h * 16) + i) (m.1 209)) j ≤ 9223372036854775807 := upI_rg (hT.2.1 11) ⟨by omega, by omega⟩
        refine K_last (a' := [(11, upI (m.2 11) ((h * 16) + i) (m.1 209))]) 105 11 (m.2 11) rfl rfl rfl (by omega) (show ((h * 16) + i) < (192 : Int) by omega) rfl rfl ?_
        refine T_ld 106 (.ref 178) rfl (fun _ => rfl) ?_
        refine K_gf 109 (.ref 12) rfl rfl kd_178 rfl rfl rfl ?_
        refine K_gf 112 (.ref 15) rfl rfl kd_12 rfl rfl rfl ?_
        refine T_ld 113 (.int (i32 ((h * 16) + i))) rfl (fun _ => rfl) ?_
        refine T_ld 114 (.ref 178) rfl (fun _ => rfl) ?_
        refine K_gf 117 (.ref 6) rfl rfl kd_178 rfl rfl rfl ?_
        refine K_gf 120 (.long (i64 (m.1 210))) rfl rfl kd_6 rfl rfl rfl ?_
        have G9 : ∀ j, (-9223372036854775808) ≤ (upI (m.2 12) ((h * 16) + i) (m.1 210)) j ∧ (upI (m.2 12) ((h * 16) + i) (m.1 210)) j ≤ 9223372036854775807 := upI_rg (hT.2.1 12) ⟨by omega, by omega⟩
        refine K_last (a' := [(11, upI (m.2 11) ((h * 16) + i) (m.1 209)), (12, upI (m.2 12) ((h * 16) + i) (m.1 210))]) 121 12 (m.2 12) rfl rfl rfl (by omega) (show ((h * 16) + i) < (192 : Int) by omega) rfl rfl ?_
        refine T_ld 122 (.ref 178) rfl (fun _ => rfl) ?_
        refine K_gf 125 (.ref 6) rfl rfl kd_178 rfl rfl rfl ?_
        refine T_callx 128 50 [.ref 6] [] rfl (fun _ => rfl) rfl rfl (c_tx_advance w (mO m [] [(11, upI (m.2 11) ((h * 16) + i) (m.1 209)), (12, upI (m.2 12) ((h * 16) + i) (m.1 210))]) c N D (by omega) (KTy_mO hT rfl rfl trivial ⟨G8, G9, trivial⟩) ) (fun rr10 k11 => ?_)
        rcases k11 with ⟨m12, Tm12, Fm12, h13, rfl⟩ | ⟨xx16, m14, hx15, Tm14, Fm14, rfl⟩
        rotate_left
        · skip
          refine Or.inr ⟨_, _, _, _, rfl, ?_⟩
          exact Or.inr ⟨xx16, (mO m14 [] []), (hx15), Tm14, (fr_m (fr_s Fm14 (fr_m fr_0 rfl rfl) rfl rfl) rfl rfl), rfl⟩
        refine Or.inl ⟨_, _, _, _, rfl, ?_⟩
        refine K_nb (st' := []) rfl ?_
        have g17 : (-1) ≤ m12.1 206 ∧ m12.1 206 ≤ 65535 := Tm12.1 206
        have g18 : 0 ≤ m12.1 207 ∧ m12.1 207 ≤ 4001 := Tm12.1 207
        have g19 : (-9223372036854775808) ≤ m12.1 209 ∧ m12.1 209 ≤ 9223372036854775807 := Tm12.1 209
        have g20 : (-9223372036854775808) ≤ m12.1 210 ∧ m12.1 210 ≤ 9223372036854775807 := Tm12.1 210
        replace h13 : (m.1 213) = 0 := h13
        refine T_ld 129 (.ref 178) rfl (fun _ => rfl) ?_
        refine K_gf 132 (.ref 6) rfl rfl kd_178 rfl rfl rfl ?_
        refine T_ld 134 (.int (i32 58)) rfl (fun _ => rfl) ?_
        refine T_callx 137 78 [.ref 6, .int (i32 58)] [] rfl (fun _ => rfl) rfl rfl (c_tx_expect w (mO m12 [] []) c N D (by omega) Tm12 58 ⟨by decide, by decide⟩) (fun rr21 k22 => ?_)
        rcases k22 with ⟨m23, Tm23, Fm23, h24, h25, rfl⟩ | ⟨xx28, m26, hx27, Tm26, Fm26, rfl⟩
        rotate_left
        · skip
          refine Or.inr ⟨_, _, _, _, rfl, ?_⟩
          exact Or.inr ⟨xx28, (mO m26 [] []), (hx27), Tm26, (fr_m (fr_s Fm26 (fr_m (fr_s Fm12 (fr_m fr_0 rfl rfl) rfl rfl) rfl rfl) rfl rfl) rfl rfl), rfl⟩
        refine Or.inl ⟨_, _, _, _, rfl, ?_⟩
        refine K_nb (st' := []) rfl ?_
        have g29 : (-1) ≤ m23.1 206 ∧ m23.1 206 ≤ 65535 := Tm23.1 206
        have g30 : 0 ≤ m23.1 207 ∧ m23.1 207 ≤ 4001 := Tm23.1 207
        have g31 : (-9223372036854775808) ≤ m23.1 209 ∧ m23.1 209 ≤ 9223372036854775807 := Tm23.1 209
        have g32 : (-9223372036854775808) ≤ m23.1 210 ∧ m23.1 210 ≤ 9223372036854775807 := Tm23.1 210
        replace h24 : (m12.1 206) = (58 : Int) := h24
        replace h25 : (m12.1 213) = 0 := h25
        rewrite [(show (m12.1 213) = (m.1 213) from (fr1 Fm12 213 rfl))] at h25
        refine T_ld 138 (.ref 178) rfl (fun _ => rfl) ?_
        refine K_gf 141 (.ref 12) rfl rfl kd_178 rfl rfl rfl ?_
        refine K_gf 144 (.ref 13) rfl rfl kd_12 rfl rfl rfl ?_
        refine T_ld 145 (.int (i32 ((h * 16) + i))) rfl (fun _ => rfl) ?_
        refine T_ld 146 (.ref 178) rfl (fun _ => rfl) ?_
        refine K_gf 149 (.ref 6) rfl rfl kd_178 rfl rfl rfl ?_
        refine T_ld 150 (.int (i32 1)) rfl (fun _ => rfl) ?_
        refine T_ld 152 (.int (i32 64)) rfl (fun _ => rfl) ?_
        refine T_callx 155 81 [.ref 6, .int (i32 1), .int (i32 64)] [.int (i32 ((h * 16) + i)), .ref 13] rfl (fun _ => rfl) rfl rfl (c_tx_within w (mO m23 [] []) c N D (by omega) Tm23 1 64 ⟨by decide, by decide⟩ ⟨by decide, by decide⟩ (show 0 ≤ (1 : Int) ∧ (1 : Int) ≤ (64 : Int) ∧ (64 : Int) ≤ 64 by omega)) (fun rr33 k34 => ?_)
        rcases k34 with ⟨m35, wn, Tm35, Fm35, g36, h37, h38, rfl⟩ | ⟨xx41, m39, hx40, Tm39, Fm39, rfl⟩
        rotate_left
        · skip
          refine Or.inr ⟨_, _, _, _, rfl, ?_⟩
          exact Or.inr ⟨xx41, (mO m39 [] []), (hx40), Tm39, (fr_m (fr_s Fm39 (fr_m (fr_s Fm23 (fr_m (fr_s Fm12 (fr_m fr_0 rfl rfl) rfl rfl) rfl rfl) rfl rfl) rfl rfl) rfl rfl) rfl rfl), rfl⟩
        refine Or.inl ⟨_, _, _, _, rfl, ?_⟩
        refine K_nb (st' := [.int (i32 wn), .int (i32 ((h * 16) + i)), .ref 13]) rfl ?_
        obtain ⟨g36a, g36b⟩ := g36
        have g42 : (-1) ≤ m35.1 206 ∧ m35.1 206 ≤ 65535 := Tm35.1 206
        have g43 : 0 ≤ m35.1 207 ∧ m35.1 207 ≤ 4001 := Tm35.1 207
        have g44 : (-9223372036854775808) ≤ m35.1 209 ∧ m35.1 209 ≤ 9223372036854775807 := Tm35.1 209
        have g45 : (-9223372036854775808) ≤ m35.1 210 ∧ m35.1 210 ≤ 9223372036854775807 := Tm35.1 210
        replace h37 : (1 : Int) ≤ wn ∧ wn ≤ (64 : Int) := h37
        replace h38 : (m23.1 213) = 0 := h38
        rewrite [(show (m23.1 213) = (m.1 213) from ((fr1 Fm23 213 rfl).trans (fr1 Fm12 213 rfl)))] at h38
        have G46 : ∀ j, 0 ≤ (upI (m.2 10) ((h * 16) + i) wn) j ∧ (upI (m.2 10) ((h * 16) + i) wn) j ≤ 64 := upI_rg (hT.2.1 10) ⟨by omega, by omega⟩
        refine K_iast (a' := [(10, upI (m.2 10) ((h * 16) + i) wn)]) 156 10 (m.2 10) rfl rfl rfl (by omega) (show ((h * 16) + i) < (192 : Int) by omega) (show (m35.2 10) = (m.2 10) from ((fr2 Fm35 10 rfl).trans ((fr2 Fm23 10 rfl).trans (fr2 Fm12 10 rfl)))) rfl ?_
        refine T_ld 157 (.ref 178) rfl (fun _ => rfl) ?_
        refine K_gf 160 (.ref 6) rfl rfl kd_178 rfl rfl rfl ?_
        refine T_ld 162 (.int (i32 59)) rfl (fun _ => rfl) ?_
        refine T_callx 165 78 [.ref 6, .int (i32 59)] [] rfl (fun _ => rfl) rfl rfl (c_tx_expect w (mO m35 [] [(10, upI (m.2 10) ((h * 16) + i) wn)]) c N D (by omega) (KTy_mO Tm35 rfl rfl trivial ⟨G46, trivial⟩) 59 ⟨by decide, by decide⟩) (fun rr47 k48 => ?_)
        rcases k48 with ⟨m49, Tm49, Fm49, h50, h51, rfl⟩ | ⟨xx54, m52, hx53, Tm52, Fm52, rfl⟩
        rotate_left
        · skip
          refine Or.inr ⟨_, _, _, _, rfl, ?_⟩
          exact Or.inr ⟨xx54, (mO m52 [] []), (hx53), Tm52, (fr_m (fr_s Fm52 (fr_m (fr_s Fm35 (fr_m (fr_s Fm23 (fr_m (fr_s Fm12 (fr_m fr_0 rfl rfl) rfl rfl) rfl rfl) rfl rfl) rfl rfl) rfl rfl) rfl rfl) rfl rfl) rfl rfl), rfl⟩
        refine Or.inl ⟨_, _, _, _, rfl, ?_⟩
        refine K_nb (st' := []) rfl ?_
        have g55 : (-1) ≤ m49.1 206 ∧ m49.1 206 ≤ 65535 := Tm49.1 206
        have g56 : 0 ≤ m49.1 207 ∧ m49.1 207 ≤ 4001 := Tm49.1 207
        have g57 : (-9223372036854775808) ≤ m49.1 209 ∧ m49.1 209 ≤ 9223372036854775807 := Tm49.1 209
        have g58 : (-9223372036854775808) ≤ m49.1 210 ∧ m49.1 210 ≤ 9223372036854775807 := Tm49.1 210
        replace h50 : (m35.1 206) = (59 : Int) := h50
        replace h51 : (m35.1 213) = 0 := h51
        rewrite [(show (m35.1 213) = (m.1 213) from ((fr1 Fm35 213 rfl).trans ((fr1 Fm23 213 rfl).trans (fr1 Fm12 213 rfl))))] at h51
        refine T_ret rfl (fun _ => rfl) ?_
        exact Or.inl ⟨(mO m49 [] []), Tm49, (fr_m (fr_s Fm49 (fr_m (fr_s Fm35 (fr_m (fr_s Fm23 (fr_m (fr_s Fm12 (fr_m fr_0 rfl rfl) rfl rfl) rfl rfl) rfl rfl) rfl rfl) rfl rfl) rfl rfl) rfl rfl) rfl rfl), (show HBp h (m49.2 10) by rewrite [(show (m49.2 10) = (upI (m.2 10) ((h * 16) + i) wn) from (fr2 Fm49 10 rfl))]; first | (exact HB_fl hHB (by omega) (by omega)) | (exfalso; omega)), rfl⟩
      · skip
        refine T_ld 68 (.ref 178) rfl (fun _ => rfl) ?_
        refine K_gf 71 (.ref 6) rfl rfl kd_178 rfl rfl rfl ?_
        refine T_ld 72 (.int (i32 3)) rfl (fun _ => rfl) ?_
        refine T_ld 73 (.ref 178) rfl (fun _ => rfl) ?_
        refine K_gf 76 (.ref 6) rfl rfl kd_178 rfl rfl rfl ?_
        refine K_gf 79 (.int (i32 (m.1 207))) rfl rfl kd_6 rfl rfl rfl ?_
        refine T_callx 82 51 [.ref 6, .int (i32 3), .int (i32 (m.1 207))] [] rfl (fun _ => rfl) rfl rfl (c_tx_fail w (mO m [] []) c N D (by omega) hT 3 (m.1 207) ⟨by decide, by decide⟩ (r32 (by omega) (by omega)) (show 1 ≤ (3 : Int) ∧ (3 : Int) ≤ 8 by omega) (show 0 ≤ (m.1 207) ∧ (m.1 207) ≤ 4001 by omega)) (fun rr59 k60 => ?_)
        rcases k60 with ⟨m61, Tm61, Fm61, h62, rfl⟩ | ⟨xx65, m63, hx64, Tm63, Fm63, rfl⟩
        rotate_left
        · skip
          refine Or.inr ⟨_, _, _, _, rfl, ?_⟩
          exact Or.inr ⟨xx65, (mO m63 [] []), (hx64), Tm63, (fr_m (fr_s Fm63 (fr_m fr_0 rfl rfl) rfl rfl) rfl rfl), rfl⟩
        exact h62.elim
    · skip
      refine T_ld 27 (.ref 178) rfl (fun _ => rfl) ?_
      refine K_gf 30 (.ref 6) rfl rfl kd_178 rfl rfl rfl ?_
      refine T_ld 31 (.int (i32 4)) rfl (fun _ => rfl) ?_
      refine T_ld 32 (.ref 178) rfl (fun _ => rfl) ?_
      refine K_gf 35 (.ref 6) rfl rfl kd_178 rfl rfl rfl ?_
      refine K_gf 38 (.int (i32 (m.1 207))) rfl rfl kd_6 rfl rfl rfl ?_
      refine T_callx 41 51 [.ref 6, .int (i32 4), .int (i32 (m.1 207))] [] rfl (fun _ => rfl) rfl rfl (c_tx_fail w (mO m [] []) c N D (by omega) hT 4 (m.1 207) ⟨by decide, by decide⟩ (r32 (by omega) (by omega)) (show 1 ≤ (4 : Int) ∧ (4 : Int) ≤ 8 by omega) (show 0 ≤ (m.1 207) ∧ (m.1 207) ≤ 4001 by omega)) (fun rr66 k67 => ?_)
      rcases k67 with ⟨m68, Tm68, Fm68, h69, rfl⟩ | ⟨xx72, m70, hx71, Tm70, Fm70, rfl⟩
      rotate_left
      · skip
        refine Or.inr ⟨_, _, _, _, rfl, ?_⟩
        exact Or.inr ⟨xx72, (mO m70 [] []), (hx71), Tm70, (fr_m (fr_s Fm70 (fr_m fr_0 rfl rfl) rfl rfl) rfl rfl), rfl⟩
      exact h69.elim
  · skip
    refine T_ld 14 (.ref 178) rfl (fun _ => rfl) ?_
    refine K_gf 17 (.ref 6) rfl rfl kd_178 rfl rfl rfl ?_
    refine T_callx 20 76 [.ref 6] [] rfl (fun _ => rfl) rfl rfl (c_tx_refuse w (mO m [] []) c N D (by omega) hT ) (fun rr73 k74 => ?_)
    rcases k74 with ⟨m75, Tm75, Fm75, h76, rfl⟩ | ⟨xx79, m77, hx78, Tm77, Fm77, rfl⟩
    rotate_left
    · skip
      refine Or.inr ⟨_, _, _, _, rfl, ?_⟩
      exact Or.inr ⟨xx79, (mO m77 [] []), (hx78), Tm77, (fr_m (fr_s Fm77 (fr_m fr_0 rfl rfl) rfl rfl) rfl rfl), rfl⟩
    exact h76.elim
def fF_rd_header : List Nat := [203, 205, 206, 207, 208, 209, 210, 211, 212, 214]
def fA_rd_header : List Nat := [6, 7, 8, 9, 10, 11, 12]
def Q_rd_header (m : mR) (c : Nat → Option am_C) (N : Nat) : ag_Re af_T → Prop := fun R => (∃ (M : mR), KTy M ∧ fr fF_rd_header fA_rd_header m M ∧ (KPp (M.1 203) (M.2 8) (M.2 9) (M.1 214) (m.1 215) (m.1 216) (m.1 217) (m.1 221) (m.1 223) (m.1 219)) ∧ (HBp (M.1 214) (M.2 10)) ∧ ((m.1 214) ≤ (M.1 214)) ∧ R = (.inl (none), (khp M c, N), 0, 0)) ∨ (∃ (x : Nat) (M : mR), (x = 0) ∧ (KTy M) ∧ (fr fF_rd_header fA_rd_header m M) ∧ R = (.inr x, (khp M c, N), 1, 6))
set_option maxHeartbeats 3000000 in
theorem c_rd_header (w : wX) (m : mR) (c : Nat → Option am_C) (N D : Nat) (hD : 10 ≤ D) (hT : KTy m) (pKP : KPp (m.1 203) (m.2 8) (m.2 9) (m.1 214) (m.1 215) (m.1 216) (m.1 217) (m.1 221) (m.1 223) (m.1 219)) (hHB : HBp (m.1 214) (m.2 10)) : TC w D 74 [.ref 178] (khp m c, N) (Q_rd_header m c N) := by
  obtain ⟨D, rfl⟩ : ∃ k, D = k + 1 := ⟨D - 1, by omega⟩
  have f203 : 0 ≤ m.1 203 ∧ m.1 203 ≤ 90 := hT.1 203
  have f206 : (-1) ≤ m.1 206 ∧ m.1 206 ≤ 65535 := hT.1 206
  have f207 : 0 ≤ m.1 207 ∧ m.1 207 ≤ 4001 := hT.1 207
  have f214 : 0 ≤ m.1 214 ∧ m.1 214 ≤ 12 := hT.1 214
  have f213 : 0 ≤ m.1 213 ∧ m.1 213 ≤ 1 := hT.1 213
  have f215 : 0 ≤ m.1 215 ∧ m.1 215 ≤ 12 := hT.1 215
  have f216 : 0 ≤ m.1 216 ∧ m.1 216 ≤ 16 := hT.1 216
  have f217 : 0 ≤ m.1 217 ∧ m.1 217 ≤ 8 := hT.1 217
  have f219 : 0 ≤ m.1 219 ∧ m.1 219 ≤ 8 := hT.1 219
  have f221 : 0 ≤ m.1 221 ∧ m.1 221 ≤ 16 := hT.1 221
  have f223 : 0 ≤ m.1 223 ∧ m.1 223 ≤ 16 := hT.1 223
  refine Tc_of rfl ?_
  rw [show (khp m c, N) = (khp (mO m [] []) c, N) from by rw [mO_nil m]]
  show TT w D pm_74 (0, [(0, .ref 178)], [], (khp (mO m [] []) c, N), 0, 0) (Q_rd_header m c N)
  refine T_ld 1 (.ref 178) rfl (fun _ => rfl) ?_
  refine K_gf 4 (.ref 6) rfl rfl kd_178 rfl rfl rfl ?_
  refine T_callx 7 50 [.ref 6] [] rfl (fun _ => rfl) rfl rfl (c_tx_advance w (mO m [] []) c N D (by omega) hT ) (fun rr1 k2 => ?_)
  rcases k2 with ⟨m3, Tm3, Fm3, h4, rfl⟩ | ⟨xx7, m5, hx6, Tm5, Fm5, rfl⟩
  rotate_left
  · skip
    refine Or.inr ⟨_, _, _, _, rfl, ?_⟩
    exact Or.inr ⟨xx7, (mO m5 [] []), (hx6), Tm5, (fr_m (fr_s Fm5 (fr_m fr_0 rfl rfl) rfl rfl) rfl rfl), rfl⟩
  refine Or.inl ⟨_, _, _, _, rfl, ?_⟩
  refine K_nb (st' := []) rfl ?_
  have g8 : (-1) ≤ m3.1 206 ∧ m3.1 206 ≤ 65535 := Tm3.1 206
  have g9 : 0 ≤ m3.1 207 ∧ m3.1 207 ≤ 4001 := Tm3.1 207
  replace h4 : (m.1 213) = 0 := h4
  refine T_ld 8 (.ref 178) rfl (fun _ => rfl) ?_
  refine K_gf 11 (.ref 12) rfl rfl kd_178 rfl rfl rfl ?_
  refine K_gf 14 (.int (i32 (m.1 214))) rfl rfl kd_12 rfl (kval_c2 (k := 214) (F := fun x => .int (i32 x)) rfl (show (m3.1 214) = (m.1 214) from (fr1 Fm3 214 rfl))) rfl ?_
  refine T_sto 15 [(1, .int (i32 (m.1 214))), (0, .ref 178)] rfl (fun _ => rfl) ?_
  refine T_ld 16 (.ref 178) rfl (fun _ => rfl) ?_
  refine K_gf 19 (.ref 6) rfl rfl kd_178 rfl rfl rfl ?_
  refine K_gf 22 (.int (i32 (m3.1 207))) rfl rfl kd_6 rfl rfl rfl ?_
  refine T_sto 23 [(2, .int (i32 (m3.1 207))), (1, .int (i32 (m.1 214))), (0, .ref 178)] rfl (fun _ => rfl) ?_
  refine T_ld 24 (.ref 178) rfl (fun _ => rfl) ?_
  refine K_gf 27 (.ref 6) rfl rfl kd_178 rfl rfl rfl ?_
  refine T_ld 30 (.int (i32 300)) rfl (fun _ => rfl) ?_
  refine T_ld 31 (.int (i32 (m.1 214))) rfl (fun _ => rfl) ?_
  refine T_ld 33 (.int (i32 12)) rfl (fun _ => rfl) ?_
  refine T_callx 36 75 [.ref 6, .int (i32 300), .int (i32 (m.1 214)), .int (i32 12)] [] rfl (fun _ => rfl) rfl rfl (c_tx_makeNew w (mO m3 [] []) c N D (by omega) Tm3 300 (m.1 214) 12 ⟨by decide, by decide⟩ (r32 (by omega) (by omega)) ⟨by decide, by decide⟩ (show 0 ≤ (300 : Int) ∧ (300 : Int) ≤ 310 by omega) (show 0 ≤ (m.1 214) ∧ (12 : Int) ≤ 16 by omega)) (fun rr10 k11 => ?_)
  rcases k11 with ⟨m12, Tm12, Fm12, h13, h14, h15, rfl⟩ | ⟨xx18, m16, hx17, Tm16, Fm16, rfl⟩
  rotate_left
  · skip
    refine Or.inr ⟨_, _, _, _, rfl, ?_⟩
    exact Or.inr ⟨xx18, (mO m16 [] []), (hx17), Tm16, (fr_m (fr_s Fm16 (fr_m (fr_s Fm3 (fr_m fr_0 rfl rfl) rfl rfl) rfl rfl) rfl rfl) rfl rfl), rfl⟩
  refine Or.inl ⟨_, _, _, _, rfl, ?_⟩
  refine K_nb (st' := []) rfl ?_
  have g19 : 0 ≤ m12.1 203 ∧ m12.1 203 ≤ 90 := Tm12.1 203
  have g20 : (-1) ≤ m12.1 206 ∧ m12.1 206 ≤ 65535 := Tm12.1 206
  have g21 : 0 ≤ m12.1 207 ∧ m12.1 207 ≤ 4001 := Tm12.1 207
  replace h13 : (m.1 214) < (12 : Int) := h13
  replace h14 : KMk (m3.1 203) (m12.1 203) (m3.2 8) (m12.2 8) (m3.2 9) (m12.2 9) (300 : Int) (m.1 214) := h14
  rewrite [(show (m3.1 203) = (m.1 203) from (fr1 Fm3 203 rfl)), (show (m3.2 8) = (m.2 8) from (fr2 Fm3 8 rfl)), (show (m3.2 9) = (m.2 9) from (fr2 Fm3 9 rfl))] at h14
  have hMk := h14
  replace h15 : (m3.1 213) = 0 := h15
  rewrite [(show (m3.1 213) = (m.1 213) from (fr1 Fm3 213 rfl))] at h15
  refine T_ld 37 (.ref 178) rfl (fun _ => rfl) ?_
  refine K_gf 40 (.ref 12) rfl rfl kd_178 rfl rfl rfl ?_
  refine T_ld 41 (.ref 12) rfl (fun _ => rfl) ?_
  refine K_gf 44 (.int (i32 (m.1 214))) rfl rfl kd_12 rfl (kval_c2 (k := 214) (F := fun x => .int (i32 x)) rfl (show (m12.1 214) = (m.1 214) from ((fr1 Fm12 214 rfl).trans (fr1 Fm3 214 rfl)))) rfl ?_
  refine T_ld 45 (.int (i32 1)) rfl (fun _ => rfl) ?_
  refine T_iadd 46 rfl rfl ?_
  refine K_pf (l' := [(214, (m.1 214) + 1)]) 49 ((m.1 214) + 1) rfl rfl kd_12 rfl rfl rfl rfl rfl rfl rfl ?_
  have g22 : 0 ≤ (m.1 214) + 1 ∧ (m.1 214) + 1 ≤ 12 := ⟨by omega, by omega⟩
  have pKP : KPp (m12.1 203) (m12.2 8) (m12.2 9) ((m.1 214) + 1) (m.1 215) (m.1 216) (m.1 217) (m.1 221) (m.1 223) (m.1 219) := KPp_mk pKP hMk (by omega) (by omega) (by omega) (by omega) (by omega) (by omega) (by omega) (by omega)
  refine T_ld 50 (.ref 178) rfl (fun _ => rfl) ?_
  refine K_gf 53 (.ref 6) rfl rfl kd_178 rfl rfl rfl ?_
  refine T_ld 55 (.int (i32 123)) rfl (fun _ => rfl) ?_
  refine T_callx 58 78 [.ref 6, .int (i32 123)] [] rfl (fun _ => rfl) rfl rfl (c_tx_expect w (mO m12 [(214, (m.1 214) + 1)] []) c N D (by omega) (KTy_mO Tm12 rfl rfl ⟨g22, trivial⟩ trivial) 123 ⟨by decide, by decide⟩) (fun rr23 k24 => ?_)
  rcases k24 with ⟨m25, Tm25, Fm25, h26, h27, rfl⟩ | ⟨xx30, m28, hx29, Tm28, Fm28, rfl⟩
  rotate_left
  · skip
    refine Or.inr ⟨_, _, _, _, rfl, ?_⟩
    exact Or.inr ⟨xx30, (mO m28 [] []), (hx29), Tm28, (fr_m (fr_s Fm28 (fr_m (fr_s Fm12 (fr_m (fr_s Fm3 (fr_m fr_0 rfl rfl) rfl rfl) rfl rfl) rfl rfl) rfl rfl) rfl rfl) rfl rfl), rfl⟩
  refine Or.inl ⟨_, _, _, _, rfl, ?_⟩
  refine K_nb (st' := []) rfl ?_
  have g31 : (-1) ≤ m25.1 206 ∧ m25.1 206 ≤ 65535 := Tm25.1 206
  have g32 : 0 ≤ m25.1 207 ∧ m25.1 207 ≤ 4001 := Tm25.1 207
  replace h26 : (m12.1 206) = (123 : Int) := h26
  replace h27 : (m12.1 213) = 0 := h27
  rewrite [(show (m12.1 213) = (m.1 213) from ((fr1 Fm12 213 rfl).trans (fr1 Fm3 213 rfl)))] at h27
  refine T_ld 59 (.int (i32 0)) rfl (fun _ => rfl) ?_
  refine T_sto 60 [(3, .int (i32 0)), (2, .int (i32 (m3.1 207))), (1, .int (i32 (m.1 214))), (0, .ref 178)] rfl (fun _ => rfl) ?_
  have L60_35 : ∀ (n42 : Nat) (v33 : Int) (m34 : mR), (R32 v33) → KTy m34 → fr [205, 206, 207, 208, 209, 210, 211, 212] [10, 11, 12] (mO m25 [] []) m34 → (0 ≤ v33) → (HBp (m.1 214) (m34.2 10)) → (0 ≤ v33 ∧ v33 ≤ 17) → 20 - v33 < (n42 : Int) → TT w D pm_74 (60, [(0, .ref 178), (1, .int (i32 (m.1 214))), (2, .int (i32 (m3.1 207))), (3, .int (i32 v33))], [], (khp (mO m34 [] []) c, N), 0, 0) (Q_rd_header m c N) := by
    intro n42
    induction n42 with
    | zero =>
      intro v33 m34 q39 Tm34 Fm34 ic36 ic37 ic38 hmu
      obtain ⟨q39a, q39b⟩ := id q39
      have q40_206 : (-1) ≤ m34.1 206 ∧ m34.1 206 ≤ 65535 := Tm34.1 206
      have q40_207 : 0 ≤ m34.1 207 ∧ m34.1 207 ≤ 4001 := Tm34.1 207
      have hHB := ic37
      exfalso
      omega
    | succ n42 ih =>
      intro v33 m34 q39 Tm34 Fm34 ic36 ic37 ic38 hmu
      obtain ⟨q39a, q39b⟩ := id q39
      have q40_206 : (-1) ≤ m34.1 206 ∧ m34.1 206 ≤ 65535 := Tm34.1 206
      have q40_207 : 0 ≤ m34.1 207 ∧ m34.1 207 ≤ 4001 := Tm34.1 207
      have hHB := ic37
      have ih43 := ih
      refine T_ld 61 (.int (i32 v33)) rfl (fun _ => rfl) ?_
      refine T_ld 63 (.int (i32 16)) rfl (fun _ => rfl) ?_
      refine T_icmp 95 66 rfl rfl rfl (r32 (by omega) (by omega)) ⟨by decide, by decide⟩ (fun (h44 : (16 : Int) < v33) => ?_) (fun (h44 : ¬ ((16 : Int) < v33)) => ?_)
      · skip
        refine T_ld 96 (.ref 178) rfl (fun _ => rfl) ?_
        refine K_gf 99 (.ref 6) rfl rfl kd_178 rfl rfl rfl ?_
        refine K_gf 102 (.int (i32 (m34.1 206))) rfl rfl kd_6 rfl rfl rfl ?_
        refine T_ld 104 (.int (i32 125)) rfl (fun _ => rfl) ?_
        refine T_icmp 114 107 rfl rfl rfl (r32 (by omega) (by omega)) ⟨by decide, by decide⟩ (fun (h45 : (m34.1 206) = 125) => ?_) (fun (h45 : ¬ ((m34.1 206) = 125)) => ?_)
        · skip
          refine T_ld 115 (.ref 178) rfl (fun _ => rfl) ?_
          refine K_gf 118 (.ref 12) rfl rfl kd_178 rfl rfl rfl ?_
          refine T_ld 119 (.int (i32 (m.1 214))) rfl (fun _ => rfl) ?_
          refine T_callx 122 29 [.ref 12, .int (i32 (m.1 214))] [] rfl (fun _ => rfl) rfl rfl (c_pr_headerBits w (mO m34 [] []) c N D (by omega) Tm34 (m.1 214) (r32 (by omega) (by omega)) (show 0 ≤ (m.1 214) ∧ (m.1 214) ≤ 11 by omega)) (fun rr46 k47 => ?_)
          obtain ⟨hbr, g48, h49, rfl⟩ := k47
          refine Or.inl ⟨_, _, _, _, rfl, ?_⟩
          refine T_ns (st' := [.int (i32 hbr)]) rfl ?_
          obtain ⟨g48a, g48b⟩ := g48
          replace h49 : hbr = hb (m34.2 10) (m.1 214) 16 := h49
          have hHr := h49
          refine T_sto 123 [(3, .int (i32 hbr)), (0, .ref 178), (1, .int (i32 (m.1 214))), (2, .int (i32 (m3.1 207)))] rfl (fun _ => rfl) ?_
          refine T_ld 124 (.int (i32 hbr)) rfl (fun _ => rfl) ?_
          refine T_ld 126 (.int (i32 8)) rfl (fun _ => rfl) ?_
          refine T_irem 127 rfl rfl (by omega) (by omega) (by omega) (by omega) ?_
          refine T_if 137 130 rfl rfl rfl (r32 (by omega) (by omega)) (fun (h50 : hbr % 8 ≠ 0) => ?_) (fun (h50 : ¬ (hbr % 8 ≠ 0)) => ?_)
          · skip
            refine T_ld 138 (.ref 178) rfl (fun _ => rfl) ?_
            refine K_gf 141 (.ref 6) rfl rfl kd_178 rfl rfl rfl ?_
            refine T_ld 143 (.int (i32 8)) rfl (fun _ => rfl) ?_
            refine T_ld 144 (.int (i32 (m3.1 207))) rfl (fun _ => rfl) ?_
            refine T_callx 147 51 [.ref 6, .int (i32 8), .int (i32 (m3.1 207))] [] rfl (fun _ => rfl) rfl rfl (c_tx_fail w (mO m34 [] []) c N D (by omega) Tm34 8 (m3.1 207) ⟨by decide, by decide⟩ (r32 (by omega) (by omega)) (show 1 ≤ (8 : Int) ∧ (8 : Int) ≤ 8 by omega) (show 0 ≤ (m3.1 207) ∧ (m3.1 207) ≤ 4001 by omega)) (fun rr51 k52 => ?_)
            rcases k52 with ⟨m53, Tm53, Fm53, h54, rfl⟩ | ⟨xx57, m55, hx56, Tm55, Fm55, rfl⟩
            rotate_left
            · skip
              refine Or.inr ⟨_, _, _, _, rfl, ?_⟩
              exact Or.inr ⟨xx57, (mO m55 [] []), (hx56), Tm55, (fr_m (fr_s Fm55 (fr_m (fr_s Fm34 (fr_m (fr_s Fm25 (fr_m (fr_s Fm12 (fr_m (fr_s Fm3 (fr_m fr_0 rfl rfl) rfl rfl) rfl rfl) rfl rfl) rfl rfl) rfl rfl) rfl rfl) rfl rfl) rfl rfl) rfl rfl) rfl rfl), rfl⟩
            exact h54.elim
          · skip
            refine T_ld 131 (.int (i32 hbr)) rfl (fun _ => rfl) ?_
            refine T_ld 134 (.int (i32 512)) rfl (fun _ => rfl) ?_
            refine T_icmp 147 137 rfl rfl rfl (r32 (by omega) (by omega)) ⟨by decide, by decide⟩ (fun (h58 : hbr ≤ 512) => ?_) (fun (h58 : ¬ (hbr ≤ 512)) => ?_)
            · skip
              have hHB : HBp ((m.1 214) + 1) (m34.2 10) := HB_new hHB (by omega) (by omega)
              refine T_ld 148 (.ref 178) rfl (fun _ => rfl) ?_
              refine K_gf 151 (.ref 6) rfl rfl kd_178 rfl rfl rfl ?_
              refine T_callx 154 50 [.ref 6] [] rfl (fun _ => rfl) rfl rfl (c_tx_advance w (mO m34 [] []) c N D (by omega) Tm34 ) (fun rr59 k60 => ?_)
              rcases k60 with ⟨m61, Tm61, Fm61, h62, rfl⟩ | ⟨xx65, m63, hx64, Tm63, Fm63, rfl⟩
              rotate_left
              · skip
                refine Or.inr ⟨_, _, _, _, rfl, ?_⟩
                exact Or.inr ⟨xx65, (mO m63 [] []), (hx64), Tm63, (fr_m (fr_s Fm63 (fr_m (fr_s Fm34 (fr_m (fr_s Fm25 (fr_m (fr_s Fm12 (fr_m (fr_s Fm3 (fr_m fr_0 rfl rfl) rfl rfl) rfl rfl) rfl rfl) rfl rfl) rfl rfl) rfl rfl) rfl rfl) rfl rfl) rfl rfl) rfl rfl), rfl⟩
              refine Or.inl ⟨_, _, _, _, rfl, ?_⟩
              refine K_nb (st' := []) rfl ?_
              have g66 : (-1) ≤ m61.1 206 ∧ m61.1 206 ≤ 65535 := Tm61.1 206
              have g67 : 0 ≤ m61.1 207 ∧ m61.1 207 ≤ 4001 := Tm61.1 207
              replace h62 : (m34.1 213) = 0 := h62
              rewrite [(show (m34.1 213) = (m.1 213) from ((fr1 Fm34 213 rfl).trans ((fr1 Fm25 213 rfl).trans ((fr1 Fm12 213 rfl).trans (fr1 Fm3 213 rfl)))))] at h62
              refine T_ret rfl (fun _ => rfl) ?_
              exact Or.inl ⟨(mO m61 [] []), Tm61, (fr_m (fr_s Fm61 (fr_m (fr_s Fm34 (fr_m (fr_s Fm25 (fr_m (fr_s Fm12 (fr_m (fr_s Fm3 (fr_m fr_0 rfl rfl) rfl rfl) rfl rfl) rfl rfl) rfl rfl) rfl rfl) rfl rfl) rfl rfl) rfl rfl) rfl rfl) rfl rfl), (show KPp (m61.1 203) (m61.2 8) (m61.2 9) (m61.1 214) (m.1 215) (m.1 216) (m.1 217) (m.1 221) (m.1 223) (m.1 219) by rewrite [(show (m61.1 203) = (m12.1 203) from ((fr1 Fm61 203 rfl).trans ((fr1 Fm34 203 rfl).trans (fr1 Fm25 203 rfl)))), (show (m61.2 8) = (m12.2 8) from ((fr2 Fm61 8 rfl).trans ((fr2 Fm34 8 rfl).trans (fr2 Fm25 8 rfl)))), (show (m61.2 9) = (m12.2 9) from ((fr2 Fm61 9 rfl).trans ((fr2 Fm34 9 rfl).trans (fr2 Fm25 9 rfl)))), (show (m61.1 214) = ((m.1 214) + 1) from ((fr1 Fm61 214 rfl).trans ((fr1 Fm34 214 rfl).trans (fr1 Fm25 214 rfl))))]; first | (exact pKP) | (exfalso; omega)), (show HBp (m61.1 214) (m61.2 10) by rewrite [(show (m61.1 214) = ((m.1 214) + 1) from ((fr1 Fm61 214 rfl).trans ((fr1 Fm34 214 rfl).trans (fr1 Fm25 214 rfl)))), (show (m61.2 10) = (m34.2 10) from (fr2 Fm61 10 rfl))]; first | (exact hHB) | (exfalso; omega)), (show (m.1 214) ≤ (m61.1 214) by rewrite [(show (m61.1 214) = ((m.1 214) + 1) from ((fr1 Fm61 214 rfl).trans ((fr1 Fm34 214 rfl).trans (fr1 Fm25 214 rfl))))]; omega), rfl⟩
            · skip
              refine T_ld 138 (.ref 178) rfl (fun _ => rfl) ?_
              refine K_gf 141 (.ref 6) rfl rfl kd_178 rfl rfl rfl ?_
              refine T_ld 143 (.int (i32 8)) rfl (fun _ => rfl) ?_
              refine T_ld 144 (.int (i32 (m3.1 207))) rfl (fun _ => rfl) ?_
              refine T_callx 147 51 [.ref 6, .int (i32 8), .int (i32 (m3.1 207))] [] rfl (fun _ => rfl) rfl rfl (c_tx_fail w (mO m34 [] []) c N D (by omega) Tm34 8 (m3.1 207) ⟨by decide, by decide⟩ (r32 (by omega) (by omega)) (show 1 ≤ (8 : Int) ∧ (8 : Int) ≤ 8 by omega) (show 0 ≤ (m3.1 207) ∧ (m3.1 207) ≤ 4001 by omega)) (fun rr68 k69 => ?_)
              rcases k69 with ⟨m70, Tm70, Fm70, h71, rfl⟩ | ⟨xx74, m72, hx73, Tm72, Fm72, rfl⟩
              rotate_left
              · skip
                refine Or.inr ⟨_, _, _, _, rfl, ?_⟩
                exact Or.inr ⟨xx74, (mO m72 [] []), (hx73), Tm72, (fr_m (fr_s Fm72 (fr_m (fr_s Fm34 (fr_m (fr_s Fm25 (fr_m (fr_s Fm12 (fr_m (fr_s Fm3 (fr_m fr_0 rfl rfl) rfl rfl) rfl rfl) rfl rfl) rfl rfl) rfl rfl) rfl rfl) rfl rfl) rfl rfl) rfl rfl) rfl rfl), rfl⟩
              exact h71.elim
        · skip
          refine T_ld 108 (.ref 178) rfl (fun _ => rfl) ?_
          refine K_gf 111 (.ref 6) rfl rfl kd_178 rfl rfl rfl ?_
          refine T_callx 114 76 [.ref 6] [] rfl (fun _ => rfl) rfl rfl (c_tx_refuse w (mO m34 [] []) c N D (by omega) Tm34 ) (fun rr75 k76 => ?_)
          rcases k76 with ⟨m77, Tm77, Fm77, h78, rfl⟩ | ⟨xx81, m79, hx80, Tm79, Fm79, rfl⟩
          rotate_left
          · skip
            refine Or.inr ⟨_, _, _, _, rfl, ?_⟩
            exact Or.inr ⟨xx81, (mO m79 [] []), (hx80), Tm79, (fr_m (fr_s Fm79 (fr_m (fr_s Fm34 (fr_m (fr_s Fm25 (fr_m (fr_s Fm12 (fr_m (fr_s Fm3 (fr_m fr_0 rfl rfl) rfl rfl) rfl rfl) rfl rfl) rfl rfl) rfl rfl) rfl rfl) rfl rfl) rfl rfl) rfl rfl) rfl rfl), rfl⟩
          exact h78.elim
      · skip
        refine T_ld 67 (.int (i32 v33)) rfl (fun _ => rfl) ?_
        refine T_if 83 70 rfl rfl rfl (r32 (by omega) (by omega)) (fun (h82 : v33 = 0) => ?_) (fun (h82 : ¬ (v33 = 0)) => ?_)
        · skip
          refine T_ld 84 (.ref 178) rfl (fun _ => rfl) ?_
          refine T_ld 85 (.int (i32 (m.1 214))) rfl (fun _ => rfl) ?_
          refine T_ld 86 (.int (i32 v33)) rfl (fun _ => rfl) ?_
          refine T_callx 89 79 [.ref 178, .int (i32 (m.1 214)), .int (i32 v33)] [] rfl (fun _ => rfl) rfl rfl (c_rd_field w (mO m34 [] []) c N D (by omega) Tm34 (m.1 214) v33 (r32 (by omega) (by omega)) (r32 (by omega) (by omega)) (show 0 ≤ (m.1 214) ∧ (m.1 214) ≤ 11 by omega) (show 0 ≤ v33 ∧ v33 ≤ 16 by omega) (show HBp (m.1 214) (m34.2 10) by exact hHB)) (fun rr83 k84 => ?_)
          rcases k84 with ⟨m85, Tm85, Fm85, h86, rfl⟩ | ⟨xx89, m87, hx88, Tm87, Fm87, rfl⟩
          rotate_left
          · skip
            refine Or.inr ⟨_, _, _, _, rfl, ?_⟩
            exact Or.inr ⟨xx89, (mO m87 [] []), (hx88), Tm87, (fr_m (fr_s Fm87 (fr_m (fr_s Fm34 (fr_m (fr_s Fm25 (fr_m (fr_s Fm12 (fr_m (fr_s Fm3 (fr_m fr_0 rfl rfl) rfl rfl) rfl rfl) rfl rfl) rfl rfl) rfl rfl) rfl rfl) rfl rfl) rfl rfl) rfl rfl) rfl rfl), rfl⟩
          refine Or.inl ⟨_, _, _, _, rfl, ?_⟩
          refine K_nb (st' := []) rfl ?_
          have g90 : (-1) ≤ m85.1 206 ∧ m85.1 206 ≤ 65535 := Tm85.1 206
          have g91 : 0 ≤ m85.1 207 ∧ m85.1 207 ≤ 4001 := Tm85.1 207
          replace h86 : HBp (m.1 214) (m85.2 10) := h86
          have hHB := h86
          refine T_iinc 92 [(3, .int (i32 (v33 + 1))), (0, .ref 178), (1, .int (i32 (m.1 214))), (2, .int (i32 (m3.1 207)))] rfl rfl (by decide) rfl rfl ?_
          refine T_goto 60 rfl (fun _ => rfl) ?_
          refine Tm_lv (a := [(0, .ref 178), (1, .int (i32 (m.1 214))), (2, .int (i32 (m3.1 207))), (3, .int (i32 (v33 + 1)))]) rfl rfl ⟨rfl, rfl, rfl, rfl, trivial⟩ ?_
          exact ih43 (v33 + 1) (mO m85 [] []) (r32 (by omega) (by omega)) Tm85 (fr_m (fr_s Fm85 (fr_m (fr_s Fm34 (fr_m fr_0 rfl rfl) rfl rfl) rfl rfl) rfl rfl) rfl rfl) (show 0 ≤ (v33 + 1) by omega) (show HBp (m.1 214) (m85.2 10) by exact hHB) (show 0 ≤ (v33 + 1) ∧ (v33 + 1) ≤ 17 by omega) (show 20 - (v33 + 1) < (n42 : Int) by omega)
        · skip
          refine T_ld 71 (.ref 178) rfl (fun _ => rfl) ?_
          refine K_gf 74 (.ref 6) rfl rfl kd_178 rfl rfl rfl ?_
          refine K_gf 77 (.int (i32 (m34.1 206))) rfl rfl kd_6 rfl rfl rfl ?_
          refine T_ld 80 (.int (i32 256)) rfl (fun _ => rfl) ?_
          refine T_icmp 95 83 rfl rfl rfl (r32 (by omega) (by omega)) ⟨by decide, by decide⟩ (fun (h92 : (m34.1 206) ≠ 256) => ?_) (fun (h92 : ¬ ((m34.1 206) ≠ 256)) => ?_)
          · skip
            refine T_ld 96 (.ref 178) rfl (fun _ => rfl) ?_
            refine K_gf 99 (.ref 6) rfl rfl kd_178 rfl rfl rfl ?_
            refine K_gf 102 (.int (i32 (m34.1 206))) rfl rfl kd_6 rfl rfl rfl ?_
            refine T_ld 104 (.int (i32 125)) rfl (fun _ => rfl) ?_
            refine T_icmp 114 107 rfl rfl rfl (r32 (by omega) (by omega)) ⟨by decide, by decide⟩ (fun (h93 : (m34.1 206) = 125) => ?_) (fun (h93 : ¬ ((m34.1 206) = 125)) => ?_)
            · skip
              refine T_ld 115 (.ref 178) rfl (fun _ => rfl) ?_
              refine K_gf 118 (.ref 12) rfl rfl kd_178 rfl rfl rfl ?_
              refine T_ld 119 (.int (i32 (m.1 214))) rfl (fun _ => rfl) ?_
              refine T_callx 122 29 [.ref 12, .int (i32 (m.1 214))] [] rfl (fun _ => rfl) rfl rfl (c_pr_headerBits w (mO m34 [] []) c N D (by omega) Tm34 (m.1 214) (r32 (by omega) (by omega)) (show 0 ≤ (m.1 214) ∧ (m.1 214) ≤ 11 by omega)) (fun rr94 k95 => ?_)
              obtain ⟨hbr, g96, h97, rfl⟩ := k95
              refine Or.inl ⟨_, _, _, _, rfl, ?_⟩
              refine T_ns (st' := [.int (i32 hbr)]) rfl ?_
              obtain ⟨g96a, g96b⟩ := g96
              replace h97 : hbr = hb (m34.2 10) (m.1 214) 16 := h97
              have hHr := h97
              refine T_sto 123 [(3, .int (i32 hbr)), (0, .ref 178), (1, .int (i32 (m.1 214))), (2, .int (i32 (m3.1 207)))] rfl (fun _ => rfl) ?_
              refine T_ld 124 (.int (i32 hbr)) rfl (fun _ => rfl) ?_
              refine T_ld 126 (.int (i32 8)) rfl (fun _ => rfl) ?_
              refine T_irem 127 rfl rfl (by omega) (by omega) (by omega) (by omega) ?_
              refine T_if 137 130 rfl rfl rfl (r32 (by omega) (by omega)) (fun (h98 : hbr % 8 ≠ 0) => ?_) (fun (h98 : ¬ (hbr % 8 ≠ 0)) => ?_)
              · skip
                refine T_ld 138 (.ref 178) rfl (fun _ => rfl) ?_
                refine K_gf 141 (.ref 6) rfl rfl kd_178 rfl rfl rfl ?_
                refine T_ld 143 (.int (i32 8)) rfl (fun _ => rfl) ?_
                refine T_ld 144 (.int (i32 (m3.1 207))) rfl (fun _ => rfl) ?_
                refine T_callx 147 51 [.ref 6, .int (i32 8), .int (i32 (m3.1 207))] [] rfl (fun _ => rfl) rfl rfl (c_tx_fail w (mO m34 [] []) c N D (by omega) Tm34 8 (m3.1 207) ⟨by decide, by decide⟩ (r32 (by omega) (by omega)) (show 1 ≤ (8 : Int) ∧ (8 : Int) ≤ 8 by omega) (show 0 ≤ (m3.1 207) ∧ (m3.1 207) ≤ 4001 by omega)) (fun rr99 k100 => ?_)
                rcases k100 with ⟨m101, Tm101, Fm101, h102, rfl⟩ | ⟨xx105, m103, hx104, Tm103, Fm103, rfl⟩
                rotate_left
                · skip
                  refine Or.inr ⟨_, _, _, _, rfl, ?_⟩
                  exact Or.inr ⟨xx105, (mO m103 [] []), (hx104), Tm103, (fr_m (fr_s Fm103 (fr_m (fr_s Fm34 (fr_m (fr_s Fm25 (fr_m (fr_s Fm12 (fr_m (fr_s Fm3 (fr_m fr_0 rfl rfl) rfl rfl) rfl rfl) rfl rfl) rfl rfl) rfl rfl) rfl rfl) rfl rfl) rfl rfl) rfl rfl) rfl rfl), rfl⟩
                exact h102.elim
              · skip
                refine T_ld 131 (.int (i32 hbr)) rfl (fun _ => rfl) ?_
                refine T_ld 134 (.int (i32 512)) rfl (fun _ => rfl) ?_
                refine T_icmp 147 137 rfl rfl rfl (r32 (by omega) (by omega)) ⟨by decide, by decide⟩ (fun (h106 : hbr ≤ 512) => ?_) (fun (h106 : ¬ (hbr ≤ 512)) => ?_)
                · skip
                  have hHB : HBp ((m.1 214) + 1) (m34.2 10) := HB_new hHB (by omega) (by omega)
                  refine T_ld 148 (.ref 178) rfl (fun _ => rfl) ?_
                  refine K_gf 151 (.ref 6) rfl rfl kd_178 rfl rfl rfl ?_
                  refine T_callx 154 50 [.ref 6] [] rfl (fun _ => rfl) rfl rfl (c_tx_advance w (mO m34 [] []) c N D (by omega) Tm34 ) (fun rr107 k108 => ?_)
                  rcases k108 with ⟨m109, Tm109, Fm109, h110, rfl⟩ | ⟨xx113, m111, hx112, Tm111, Fm111, rfl⟩
                  rotate_left
                  · skip
                    refine Or.inr ⟨_, _, _, _, rfl, ?_⟩
                    exact Or.inr ⟨xx113, (mO m111 [] []), (hx112), Tm111, (fr_m (fr_s Fm111 (fr_m (fr_s Fm34 (fr_m (fr_s Fm25 (fr_m (fr_s Fm12 (fr_m (fr_s Fm3 (fr_m fr_0 rfl rfl) rfl rfl) rfl rfl) rfl rfl) rfl rfl) rfl rfl) rfl rfl) rfl rfl) rfl rfl) rfl rfl) rfl rfl), rfl⟩
                  refine Or.inl ⟨_, _, _, _, rfl, ?_⟩
                  refine K_nb (st' := []) rfl ?_
                  have g114 : (-1) ≤ m109.1 206 ∧ m109.1 206 ≤ 65535 := Tm109.1 206
                  have g115 : 0 ≤ m109.1 207 ∧ m109.1 207 ≤ 4001 := Tm109.1 207
                  replace h110 : (m34.1 213) = 0 := h110
                  rewrite [(show (m34.1 213) = (m.1 213) from ((fr1 Fm34 213 rfl).trans ((fr1 Fm25 213 rfl).trans ((fr1 Fm12 213 rfl).trans (fr1 Fm3 213 rfl)))))] at h110
                  refine T_ret rfl (fun _ => rfl) ?_
                  exact Or.inl ⟨(mO m109 [] []), Tm109, (fr_m (fr_s Fm109 (fr_m (fr_s Fm34 (fr_m (fr_s Fm25 (fr_m (fr_s Fm12 (fr_m (fr_s Fm3 (fr_m fr_0 rfl rfl) rfl rfl) rfl rfl) rfl rfl) rfl rfl) rfl rfl) rfl rfl) rfl rfl) rfl rfl) rfl rfl) rfl rfl), (show KPp (m109.1 203) (m109.2 8) (m109.2 9) (m109.1 214) (m.1 215) (m.1 216) (m.1 217) (m.1 221) (m.1 223) (m.1 219) by rewrite [(show (m109.1 203) = (m12.1 203) from ((fr1 Fm109 203 rfl).trans ((fr1 Fm34 203 rfl).trans (fr1 Fm25 203 rfl)))), (show (m109.2 8) = (m12.2 8) from ((fr2 Fm109 8 rfl).trans ((fr2 Fm34 8 rfl).trans (fr2 Fm25 8 rfl)))), (show (m109.2 9) = (m12.2 9) from ((fr2 Fm109 9 rfl).trans ((fr2 Fm34 9 rfl).trans (fr2 Fm25 9 rfl)))), (show (m109.1 214) = ((m.1 214) + 1) from ((fr1 Fm109 214 rfl).trans ((fr1 Fm34 214 rfl).trans (fr1 Fm25 214 rfl))))]; first | (exact pKP) | (exfalso; omega)), (show HBp (m109.1 214) (m109.2 10) by rewrite [(show (m109.1 214) = ((m.1 214) + 1) from ((fr1 Fm109 214 rfl).trans ((fr1 Fm34 214 rfl).trans (fr1 Fm25 214 rfl)))), (show (m109.2 10) = (m34.2 10) from (fr2 Fm109 10 rfl))]; first | (exact hHB) | (exfalso; omega)), (show (m.1 214) ≤ (m109.1 214) by rewrite [(show (m109.1 214) = ((m.1 214) + 1) from ((fr1 Fm109 214 rfl).trans ((fr1 Fm34 214 rfl).trans (fr1 Fm25 214 rfl))))]; omega), rfl⟩
                · skip
                  refine T_ld 138 (.ref 178) rfl (fun _ => rfl) ?_
                  refine K_gf 141 (.ref 6) rfl rfl kd_178 rfl rfl rfl ?_
                  refine T_ld 143 (.int (i32 8)) rfl (fun _ => rfl) ?_
                  refine T_ld 144 (.int (i32 (m3.1 207))) rfl (fun _ => rfl) ?_
                  refine T_callx 147 51 [.ref 6, .int (i32 8), .int (i32 (m3.1 207))] [] rfl (fun _ => rfl) rfl rfl (c_tx_fail w (mO m34 [] []) c N D (by omega) Tm34 8 (m3.1 207) ⟨by decide, by decide⟩ (r32 (by omega) (by omega)) (show 1 ≤ (8 : Int) ∧ (8 : Int) ≤ 8 by omega) (show 0 ≤ (m3.1 207) ∧ (m3.1 207) ≤ 4001 by omega)) (fun rr116 k117 => ?_)
                  rcases k117 with ⟨m118, Tm118, Fm118, h119, rfl⟩ | ⟨xx122, m120, hx121, Tm120, Fm120, rfl⟩
                  rotate_left
                  · skip
                    refine Or.inr ⟨_, _, _, _, rfl, ?_⟩
                    exact Or.inr ⟨xx122, (mO m120 [] []), (hx121), Tm120, (fr_m (fr_s Fm120 (fr_m (fr_s Fm34 (fr_m (fr_s Fm25 (fr_m (fr_s Fm12 (fr_m (fr_s Fm3 (fr_m fr_0 rfl rfl) rfl rfl) rfl rfl) rfl rfl) rfl rfl) rfl rfl) rfl rfl) rfl rfl) rfl rfl) rfl rfl) rfl rfl), rfl⟩
                  exact h119.elim
            · skip
              refine T_ld 108 (.ref 178) rfl (fun _ => rfl) ?_
              refine K_gf 111 (.ref 6) rfl rfl kd_178 rfl rfl rfl ?_
              refine T_callx 114 76 [.ref 6] [] rfl (fun _ => rfl) rfl rfl (c_tx_refuse w (mO m34 [] []) c N D (by omega) Tm34 ) (fun rr123 k124 => ?_)
              rcases k124 with ⟨m125, Tm125, Fm125, h126, rfl⟩ | ⟨xx129, m127, hx128, Tm127, Fm127, rfl⟩
              rotate_left
              · skip
                refine Or.inr ⟨_, _, _, _, rfl, ?_⟩
                exact Or.inr ⟨xx129, (mO m127 [] []), (hx128), Tm127, (fr_m (fr_s Fm127 (fr_m (fr_s Fm34 (fr_m (fr_s Fm25 (fr_m (fr_s Fm12 (fr_m (fr_s Fm3 (fr_m fr_0 rfl rfl) rfl rfl) rfl rfl) rfl rfl) rfl rfl) rfl rfl) rfl rfl) rfl rfl) rfl rfl) rfl rfl) rfl rfl), rfl⟩
              exact h126.elim
          · skip
            refine T_ld 84 (.ref 178) rfl (fun _ => rfl) ?_
            refine T_ld 85 (.int (i32 (m.1 214))) rfl (fun _ => rfl) ?_
            refine T_ld 86 (.int (i32 v33)) rfl (fun _ => rfl) ?_
            refine T_callx 89 79 [.ref 178, .int (i32 (m.1 214)), .int (i32 v33)] [] rfl (fun _ => rfl) rfl rfl (c_rd_field w (mO m34 [] []) c N D (by omega) Tm34 (m.1 214) v33 (r32 (by omega) (by omega)) (r32 (by omega) (by omega)) (show 0 ≤ (m.1 214) ∧ (m.1 214) ≤ 11 by omega) (show 0 ≤ v33 ∧ v33 ≤ 16 by omega) (show HBp (m.1 214) (m34.2 10) by exact hHB)) (fun rr130 k131 => ?_)
            rcases k131 with ⟨m132, Tm132, Fm132, h133, rfl⟩ | ⟨xx136, m134, hx135, Tm134, Fm134, rfl⟩
            rotate_left
            · skip
              refine Or.inr ⟨_, _, _, _, rfl, ?_⟩
              exact Or.inr ⟨xx136, (mO m134 [] []), (hx135), Tm134, (fr_m (fr_s Fm134 (fr_m (fr_s Fm34 (fr_m (fr_s Fm25 (fr_m (fr_s Fm12 (fr_m (fr_s Fm3 (fr_m fr_0 rfl rfl) rfl rfl) rfl rfl) rfl rfl) rfl rfl) rfl rfl) rfl rfl) rfl rfl) rfl rfl) rfl rfl) rfl rfl), rfl⟩
            refine Or.inl ⟨_, _, _, _, rfl, ?_⟩
            refine K_nb (st' := []) rfl ?_
            have g137 : (-1) ≤ m132.1 206 ∧ m132.1 206 ≤ 65535 := Tm132.1 206
            have g138 : 0 ≤ m132.1 207 ∧ m132.1 207 ≤ 4001 := Tm132.1 207
            replace h133 : HBp (m.1 214) (m132.2 10) := h133
            have hHB := h133
            refine T_iinc 92 [(3, .int (i32 (v33 + 1))), (0, .ref 178), (1, .int (i32 (m.1 214))), (2, .int (i32 (m3.1 207)))] rfl rfl (by decide) rfl rfl ?_
            refine T_goto 60 rfl (fun _ => rfl) ?_
            refine Tm_lv (a := [(0, .ref 178), (1, .int (i32 (m.1 214))), (2, .int (i32 (m3.1 207))), (3, .int (i32 (v33 + 1)))]) rfl rfl ⟨rfl, rfl, rfl, rfl, trivial⟩ ?_
            exact ih43 (v33 + 1) (mO m132 [] []) (r32 (by omega) (by omega)) Tm132 (fr_m (fr_s Fm132 (fr_m (fr_s Fm34 (fr_m fr_0 rfl rfl) rfl rfl) rfl rfl) rfl rfl) rfl rfl) (show 0 ≤ (v33 + 1) by omega) (show HBp (m.1 214) (m132.2 10) by exact hHB) (show 0 ≤ (v33 + 1) ∧ (v33 + 1) ≤ 17 by omega) (show 20 - (v33 + 1) < (n42 : Int) by omega)
  refine Tm_lv (a := [(0, .ref 178), (1, .int (i32 (m.1 214))), (2, .int (i32 (m3.1 207))), (3, .int (i32 0))]) rfl rfl ⟨rfl, rfl, rfl, rfl, trivial⟩ ?_
  exact L60_35 ((20 - (0 : Int) : Int) + 1).toNat 0 (mO m25 [] []) ⟨by decide, by decide⟩ Tm25 (fr_m fr_0 rfl rfl) (show 0 ≤ (0 : Int) by omega) (show HBp (m.1 214) (m25.2 10) by rewrite [(show (m25.2 10) = (m.2 10) from ((fr2 Fm25 10 rfl).trans ((fr2 Fm12 10 rfl).trans (fr2 Fm3 10 rfl))))]; exact hHB) (show 0 ≤ (0 : Int) ∧ (0 : Int) ≤ 17 by omega) (show 20 - (0 : Int) < ((((20 - (0 : Int) : Int) + 1).toNat : Nat) : Int) by omega)
def fF_rd_instance : List Nat := [203, 205, 206, 207, 208, 209, 210, 211, 212, 215]
def fA_rd_instance : List Nat := [6, 7, 8, 9, 13]
def Q_rd_instance (m : mR) (c : Nat → Option am_C) (N : Nat) : ag_Re af_T → Prop := fun R => (∃ (M : mR), KTy M ∧ fr fF_rd_instance fA_rd_instance m M ∧ (KPp (M.1 203) (M.2 8) (M.2 9) (m.1 214) (M.1 215) (m.1 216) (m.1 217) (m.1 221) (m.1 223) (m.1 219)) ∧ (IHp (M.1 215) (M.2 13) (m.1 214)) ∧ R = (.inl (none), (khp M c, N), 0, 0)) ∨ (∃ (x : Nat) (M : mR), (x = 0) ∧ (KTy M) ∧ (fr fF_rd_instance fA_rd_instance m M) ∧ R = (.inr x, (khp M c, N), 1, 6))
set_option maxHeartbeats 3000000 in
theorem c_rd_instance (w : wX) (m : mR) (c : Nat → Option am_C) (N D : Nat) (hD : 9 ≤ D) (hT : KTy m) (pKP : KPp (m.1 203) (m.2 8) (m.2 9) (m.1 214) (m.1 215) (m.1 216) (m.1 217) (m.1 221) (m.1 223) (m.1 219)) (hIH : IHp (m.1 215) (m.2 13) (m.1 214)) : TC w D 82 [.ref 178] (khp m c, N) (Q_rd_instance m c N) := by
  obtain ⟨D, rfl⟩ : ∃ k, D = k + 1 := ⟨D - 1, by omega⟩
  have f203 : 0 ≤ m.1 203 ∧ m.1 203 ≤ 90 := hT.1 203
  have f206 : (-1) ≤ m.1 206 ∧ m.1 206 ≤ 65535 := hT.1 206
  have f215 : 0 ≤ m.1 215 ∧ m.1 215 ≤ 12 := hT.1 215
  have f213 : 0 ≤ m.1 213 ∧ m.1 213 ≤ 1 := hT.1 213
  have f214 : 0 ≤ m.1 214 ∧ m.1 214 ≤ 12 := hT.1 214
  have f216 : 0 ≤ m.1 216 ∧ m.1 216 ≤ 16 := hT.1 216
  have f217 : 0 ≤ m.1 217 ∧ m.1 217 ≤ 8 := hT.1 217
  have f219 : 0 ≤ m.1 219 ∧ m.1 219 ≤ 8 := hT.1 219
  have f221 : 0 ≤ m.1 221 ∧ m.1 221 ≤ 16 := hT.1 221
  have f223 : 0 ≤ m.1 223 ∧ m.1 223 ≤ 16 := hT.1 223
  refine Tc_of rfl ?_
  rw [show (khp m c, N) = (khp (mO m [] []) c, N) from by rw [mO_nil m]]
  show TT w D pm_82 (0, [(0, .ref 178)], [], (khp (mO m [] []) c, N), 0, 0) (Q_rd_instance m c N)
  refine T_ld 1 (.ref 178) rfl (fun _ => rfl) ?_
  refine K_gf 4 (.ref 6) rfl rfl kd_178 rfl rfl rfl ?_
  refine T_callx 7 50 [.ref 6] [] rfl (fun _ => rfl) rfl rfl (c_tx_advance w (mO m [] []) c N D (by omega) hT ) (fun rr1 k2 => ?_)
  rcases k2 with ⟨m3, Tm3, Fm3, h4, rfl⟩ | ⟨xx7, m5, hx6, Tm5, Fm5, rfl⟩
  rotate_left
  · skip
    refine Or.inr ⟨_, _, _, _, rfl, ?_⟩
    exact Or.inr ⟨xx7, (mO m5 [] []), (hx6), Tm5, (fr_m (fr_s Fm5 (fr_m fr_0 rfl rfl) rfl rfl) rfl rfl), rfl⟩
  refine Or.inl ⟨_, _, _, _, rfl, ?_⟩
  refine K_nb (st' := []) rfl ?_
  have g8 : (-1) ≤ m3.1 206 ∧ m3.1 206 ≤ 65535 := Tm3.1 206
  replace h4 : (m.1 213) = 0 := h4
  refine T_ld 8 (.ref 178) rfl (fun _ => rfl) ?_
  refine K_gf 11 (.ref 12) rfl rfl kd_178 rfl rfl rfl ?_
  refine K_gf 14 (.int (i32 (m.1 215))) rfl rfl kd_12 rfl (kval_c2 (k := 215) (F := fun x => .int (i32 x)) rfl (show (m3.1 215) = (m.1 215) from (fr1 Fm3 215 rfl))) rfl ?_
  refine T_sto 15 [(1, .int (i32 (m.1 215))), (0, .ref 178)] rfl (fun _ => rfl) ?_
  refine T_ld 16 (.ref 178) rfl (fun _ => rfl) ?_
  refine K_gf 19 (.ref 6) rfl rfl kd_178 rfl rfl rfl ?_
  refine T_ld 22 (.int (i32 301)) rfl (fun _ => rfl) ?_
  refine T_ld 23 (.int (i32 (m.1 215))) rfl (fun _ => rfl) ?_
  refine T_ld 25 (.int (i32 12)) rfl (fun _ => rfl) ?_
  refine T_callx 28 75 [.ref 6, .int (i32 301), .int (i32 (m.1 215)), .int (i32 12)] [] rfl (fun _ => rfl) rfl rfl (c_tx_makeNew w (mO m3 [] []) c N D (by omega) Tm3 301 (m.1 215) 12 ⟨by decide, by decide⟩ (r32 (by omega) (by omega)) ⟨by decide, by decide⟩ (show 0 ≤ (301 : Int) ∧ (301 : Int) ≤ 310 by omega) (show 0 ≤ (m.1 215) ∧ (12 : Int) ≤ 16 by omega)) (fun rr9 k10 => ?_)
  rcases k10 with ⟨m11, Tm11, Fm11, h12, h13, h14, rfl⟩ | ⟨xx17, m15, hx16, Tm15, Fm15, rfl⟩
  rotate_left
  · skip
    refine Or.inr ⟨_, _, _, _, rfl, ?_⟩
    exact Or.inr ⟨xx17, (mO m15 [] []), (hx16), Tm15, (fr_m (fr_s Fm15 (fr_m (fr_s Fm3 (fr_m fr_0 rfl rfl) rfl rfl) rfl rfl) rfl rfl) rfl rfl), rfl⟩
  refine Or.inl ⟨_, _, _, _, rfl, ?_⟩
  refine K_nb (st' := []) rfl ?_
  have g18 : 0 ≤ m11.1 203 ∧ m11.1 203 ≤ 90 := Tm11.1 203
  have g19 : (-1) ≤ m11.1 206 ∧ m11.1 206 ≤ 65535 := Tm11.1 206
  replace h12 : (m.1 215) < (12 : Int) := h12
  replace h13 : KMk (m3.1 203) (m11.1 203) (m3.2 8) (m11.2 8) (m3.2 9) (m11.2 9) (301 : Int) (m.1 215) := h13
  rewrite [(show (m3.1 203) = (m.1 203) from (fr1 Fm3 203 rfl)), (show (m3.2 8) = (m.2 8) from (fr2 Fm3 8 rfl)), (show (m3.2 9) = (m.2 9) from (fr2 Fm3 9 rfl))] at h13
  have hMk := h13
  replace h14 : (m3.1 213) = 0 := h14
  rewrite [(show (m3.1 213) = (m.1 213) from (fr1 Fm3 213 rfl))] at h14
  refine T_ld 29 (.ref 178) rfl (fun _ => rfl) ?_
  refine K_gf 32 (.ref 12) rfl rfl kd_178 rfl rfl rfl ?_
  refine T_ld 33 (.ref 12) rfl (fun _ => rfl) ?_
  refine K_gf 36 (.int (i32 (m.1 215))) rfl rfl kd_12 rfl (kval_c2 (k := 215) (F := fun x => .int (i32 x)) rfl (show (m11.1 215) = (m.1 215) from ((fr1 Fm11 215 rfl).trans (fr1 Fm3 215 rfl)))) rfl ?_
  refine T_ld 37 (.int (i32 1)) rfl (fun _ => rfl) ?_
  refine T_iadd 38 rfl rfl ?_
  refine K_pf (l' := [(215, (m.1 215) + 1)]) 41 ((m.1 215) + 1) rfl rfl kd_12 rfl rfl rfl rfl rfl rfl rfl ?_
  have g20 : 0 ≤ (m.1 215) + 1 ∧ (m.1 215) + 1 ≤ 12 := ⟨by omega, by omega⟩
  have pKP : KPp (m11.1 203) (m11.2 8) (m11.2 9) (m.1 214) ((m.1 215) + 1) (m.1 216) (m.1 217) (m.1 221) (m.1 223) (m.1 219) := KPp_mk pKP hMk (by omega) (by omega) (by omega) (by omega) (by omega) (by omega) (by omega) (by omega)
  refine T_ld 42 (.ref 178) rfl (fun _ => rfl) ?_
  refine K_gf 45 (.ref 6) rfl rfl kd_178 rfl rfl rfl ?_
  refine T_ld 47 (.int (i32 58)) rfl (fun _ => rfl) ?_
  refine T_callx 50 78 [.ref 6, .int (i32 58)] [] rfl (fun _ => rfl) rfl rfl (c_tx_expect w (mO m11 [(215, (m.1 215) + 1)] []) c N D (by omega) (KTy_mO Tm11 rfl rfl ⟨g20, trivial⟩ trivial) 58 ⟨by decide, by decide⟩) (fun rr21 k22 => ?_)
  rcases k22 with ⟨m23, Tm23, Fm23, h24, h25, rfl⟩ | ⟨xx28, m26, hx27, Tm26, Fm26, rfl⟩
  rotate_left
  · skip
    refine Or.inr ⟨_, _, _, _, rfl, ?_⟩
    exact Or.inr ⟨xx28, (mO m26 [] []), (hx27), Tm26, (fr_m (fr_s Fm26 (fr_m (fr_s Fm11 (fr_m (fr_s Fm3 (fr_m fr_0 rfl rfl) rfl rfl) rfl rfl) rfl rfl) rfl rfl) rfl rfl) rfl rfl), rfl⟩
  refine Or.inl ⟨_, _, _, _, rfl, ?_⟩
  refine K_nb (st' := []) rfl ?_
  have g29 : (-1) ≤ m23.1 206 ∧ m23.1 206 ≤ 65535 := Tm23.1 206
  replace h24 : (m11.1 206) = (58 : Int) := h24
  replace h25 : (m11.1 213) = 0 := h25
  rewrite [(show (m11.1 213) = (m.1 213) from ((fr1 Fm11 213 rfl).trans (fr1 Fm3 213 rfl)))] at h25
  refine T_ld 51 (.ref 178) rfl (fun _ => rfl) ?_
  refine K_gf 54 (.ref 12) rfl rfl kd_178 rfl rfl rfl ?_
  refine K_gf 57 (.ref 16) rfl rfl kd_12 rfl rfl rfl ?_
  refine T_ld 58 (.int (i32 (m.1 215))) rfl (fun _ => rfl) ?_
  refine T_ld 59 (.ref 178) rfl (fun _ => rfl) ?_
  refine K_gf 62 (.ref 6) rfl rfl kd_178 rfl rfl rfl ?_
  refine T_ld 65 (.int (i32 300)) rfl (fun _ => rfl) ?_
  refine T_callx 68 83 [.ref 6, .int (i32 300)] [.int (i32 (m.1 215)), .ref 16] rfl (fun _ => rfl) rfl rfl (c_tx_known w (mO m23 [] []) c N D (by omega) Tm23 300 ⟨by decide, by decide⟩) (fun rr30 k31 => ?_)
  rcases k31 with ⟨m32, kn, Tm32, Fm32, g33, h34, h35, h36, rfl⟩ | ⟨xx39, m37, hx38, Tm37, Fm37, rfl⟩
  rotate_left
  · skip
    refine Or.inr ⟨_, _, _, _, rfl, ?_⟩
    exact Or.inr ⟨xx39, (mO m37 [] []), (hx38), Tm37, (fr_m (fr_s Fm37 (fr_m (fr_s Fm23 (fr_m (fr_s Fm11 (fr_m (fr_s Fm3 (fr_m fr_0 rfl rfl) rfl rfl) rfl rfl) rfl rfl) rfl rfl) rfl rfl) rfl rfl) rfl rfl) rfl rfl), rfl⟩
  refine Or.inl ⟨_, _, _, _, rfl, ?_⟩
  refine K_nb (st' := [.int (i32 kn), .int (i32 (m.1 215)), .ref 16]) rfl ?_
  obtain ⟨g33a, g33b⟩ := g33
  have g40 : (-1) ≤ m32.1 206 ∧ m32.1 206 ≤ 65535 := Tm32.1 206
  replace h34 : KNo (m23.1 203) (m23.2 8) (m23.2 9) (300 : Int) kn := h34
  rewrite [(show (m23.1 203) = (m11.1 203) from (fr1 Fm23 203 rfl)), (show (m23.2 8) = (m11.2 8) from (fr2 Fm23 8 rfl)), (show (m23.2 9) = (m11.2 9) from (fr2 Fm23 9 rfl))] at h34
  have hKn := h34
  replace h35 : (m23.1 213) = 0 := h35
  rewrite [(show (m23.1 213) = (m.1 213) from ((fr1 Fm23 213 rfl).trans ((fr1 Fm11 213 rfl).trans (fr1 Fm3 213 rfl))))] at h35
  replace h36 : (m23.1 206) = 256 := h36
  have hkn := KNo_w pKP hKn
  have G41 : ∀ j, 0 ≤ (upI (m.2 13) (m.1 215) kn) j ∧ (upI (m.2 13) (m.1 215) kn) j ≤ 11 := upI_rg (hT.2.1 13) ⟨by omega, by omega⟩
  refine K_iast (a' := [(13, upI (m.2 13) (m.1 215) kn)]) 69 13 (m.2 13) rfl rfl rfl (by omega) (show (m.1 215) < (12 : Int) by omega) (show (m32.2 13) = (m.2 13) from ((fr2 Fm32 13 rfl).trans ((fr2 Fm23 13 rfl).trans ((fr2 Fm11 13 rfl).trans (fr2 Fm3 13 rfl))))) rfl ?_
  have hIH : IHp ((m.1 215) + 1) (upI (m.2 13) (m.1 215) kn) (m.1 214) := IH_new hIH (by omega) rfl (by omega)
  refine T_ld 70 (.ref 178) rfl (fun _ => rfl) ?_
  refine K_gf 73 (.ref 6) rfl rfl kd_178 rfl rfl rfl ?_
  refine T_ld 75 (.int (i32 59)) rfl (fun _ => rfl) ?_
  refine T_callx 78 78 [.ref 6, .int (i32 59)] [] rfl (fun _ => rfl) rfl rfl (c_tx_expect w (mO m32 [] [(13, upI (m.2 13) (m.1 215) kn)]) c N D (by omega) (KTy_mO Tm32 rfl rfl trivial ⟨G41, trivial⟩) 59 ⟨by decide, by decide⟩) (fun rr42 k43 => ?_)
  rcases k43 with ⟨m44, Tm44, Fm44, h45, h46, rfl⟩ | ⟨xx49, m47, hx48, Tm47, Fm47, rfl⟩
  rotate_left
  · skip
    refine Or.inr ⟨_, _, _, _, rfl, ?_⟩
    exact Or.inr ⟨xx49, (mO m47 [] []), (hx48), Tm47, (fr_m (fr_s Fm47 (fr_m (fr_s Fm32 (fr_m (fr_s Fm23 (fr_m (fr_s Fm11 (fr_m (fr_s Fm3 (fr_m fr_0 rfl rfl) rfl rfl) rfl rfl) rfl rfl) rfl rfl) rfl rfl) rfl rfl) rfl rfl) rfl rfl) rfl rfl) rfl rfl), rfl⟩
  refine Or.inl ⟨_, _, _, _, rfl, ?_⟩
  refine K_nb (st' := []) rfl ?_
  have g50 : (-1) ≤ m44.1 206 ∧ m44.1 206 ≤ 65535 := Tm44.1 206
  replace h45 : (m32.1 206) = (59 : Int) := h45
  replace h46 : (m32.1 213) = 0 := h46
  rewrite [(show (m32.1 213) = (m.1 213) from ((fr1 Fm32 213 rfl).trans ((fr1 Fm23 213 rfl).trans ((fr1 Fm11 213 rfl).trans (fr1 Fm3 213 rfl)))))] at h46
  refine T_ret rfl (fun _ => rfl) ?_
  exact Or.inl ⟨(mO m44 [] []), Tm44, (fr_m (fr_s Fm44 (fr_m (fr_s Fm32 (fr_m (fr_s Fm23 (fr_m (fr_s Fm11 (fr_m (fr_s Fm3 (fr_m fr_0 rfl rfl) rfl rfl) rfl rfl) rfl rfl) rfl rfl) rfl rfl) rfl rfl) rfl rfl) rfl rfl) rfl rfl) rfl rfl), (show KPp (m44.1 203) (m44.2 8) (m44.2 9) (m.1 214) (m44.1 215) (m.1 216) (m.1 217) (m.1 221) (m.1 223) (m.1 219) by rewrite [(show (m44.1 203) = (m11.1 203) from ((fr1 Fm44 203 rfl).trans ((fr1 Fm32 203 rfl).trans (fr1 Fm23 203 rfl)))), (show (m44.2 8) = (m11.2 8) from ((fr2 Fm44 8 rfl).trans ((fr2 Fm32 8 rfl).trans (fr2 Fm23 8 rfl)))), (show (m44.2 9) = (m11.2 9) from ((fr2 Fm44 9 rfl).trans ((fr2 Fm32 9 rfl).trans (fr2 Fm23 9 rfl)))), (show (m44.1 215) = ((m.1 215) + 1) from ((fr1 Fm44 215 rfl).trans ((fr1 Fm32 215 rfl).trans (fr1 Fm23 215 rfl))))]; first | (exact pKP) | (exfalso; omega)), (show IHp (m44.1 215) (m44.2 13) (m.1 214) by rewrite [(show (m44.1 215) = ((m.1 215) + 1) from ((fr1 Fm44 215 rfl).trans ((fr1 Fm32 215 rfl).trans (fr1 Fm23 215 rfl)))), (show (m44.2 13) = (upI (m.2 13) (m.1 215) kn) from (fr2 Fm44 13 rfl))]; first | (exact hIH) | (exfalso; omega)), rfl⟩
def fF_rd_meta : List Nat := [203, 205, 206, 207, 208, 209, 210, 211, 212, 216]
def fA_rd_meta : List Nat := [6, 7, 8, 9, 14]
def Q_rd_meta (m : mR) (c : Nat → Option am_C) (N : Nat) : ag_Re af_T → Prop := fun R => (∃ (M : mR), KTy M ∧ fr fF_rd_meta fA_rd_meta m M ∧ (KPp (M.1 203) (M.2 8) (M.2 9) (m.1 214) (m.1 215) (M.1 216) (m.1 217) (m.1 221) (m.1 223) (m.1 219)) ∧ ((m.1 216) ≤ (M.1 216)) ∧ R = (.inl (none), (khp M c, N), 0, 0)) ∨ (∃ (x : Nat) (M : mR), (x = 0) ∧ (KTy M) ∧ (fr fF_rd_meta fA_rd_meta m M) ∧ R = (.inr x, (khp M c, N), 1, 6))
set_option maxHeartbeats 3000000 in
theorem c_rd_meta (w : wX) (m : mR) (c : Nat → Option am_C) (N D : Nat) (hD : 9 ≤ D) (hT : KTy m) (pKP : KPp (m.1 203) (m.2 8) (m.2 9) (m.1 214) (m.1 215) (m.1 216) (m.1 217) (m.1 221) (m.1 223) (m.1 219)) : TC w D 85 [.ref 178] (khp m c, N) (Q_rd_meta m c N) := by
  obtain ⟨D, rfl⟩ : ∃ k, D = k + 1 := ⟨D - 1, by omega⟩
  have f203 : 0 ≤ m.1 203 ∧ m.1 203 ≤ 90 := hT.1 203
  have f206 : (-1) ≤ m.1 206 ∧ m.1 206 ≤ 65535 := hT.1 206
  have f216 : 0 ≤ m.1 216 ∧ m.1 216 ≤ 16 := hT.1 216
  have f213 : 0 ≤ m.1 213 ∧ m.1 213 ≤ 1 := hT.1 213
  have f214 : 0 ≤ m.1 214 ∧ m.1 214 ≤ 12 := hT.1 214
  have f215 : 0 ≤ m.1 215 ∧ m.1 215 ≤ 12 := hT.1 215
  have f217 : 0 ≤ m.1 217 ∧ m.1 217 ≤ 8 := hT.1 217
  have f219 : 0 ≤ m.1 219 ∧ m.1 219 ≤ 8 := hT.1 219
  have f221 : 0 ≤ m.1 221 ∧ m.1 221 ≤ 16 := hT.1 221
  have f223 : 0 ≤ m.1 223 ∧ m.1 223 ≤ 16 := hT.1 223
  refine Tc_of rfl ?_
  rw [show (khp m c, N) = (khp (mO m [] []) c, N) from by rw [mO_nil m]]
  show TT w D pm_85 (0, [(0, .ref 178)], [], (khp (mO m [] []) c, N), 0, 0) (Q_rd_meta m c N)
  refine T_ld 1 (.ref 178) rfl (fun _ => rfl) ?_
  refine K_gf 4 (.ref 6) rfl rfl kd_178 rfl rfl rfl ?_
  refine T_callx 7 50 [.ref 6] [] rfl (fun _ => rfl) rfl rfl (c_tx_advance w (mO m [] []) c N D (by omega) hT ) (fun rr1 k2 => ?_)
  rcases k2 with ⟨m3, Tm3, Fm3, h4, rfl⟩ | ⟨xx7, m5, hx6, Tm5, Fm5, rfl⟩
  rotate_left
  · skip
    refine Or.inr ⟨_, _, _, _, rfl, ?_⟩
    exact Or.inr ⟨xx7, (mO m5 [] []), (hx6), Tm5, (fr_m (fr_s Fm5 (fr_m fr_0 rfl rfl) rfl rfl) rfl rfl), rfl⟩
  refine Or.inl ⟨_, _, _, _, rfl, ?_⟩
  refine K_nb (st' := []) rfl ?_
  have g8 : (-1) ≤ m3.1 206 ∧ m3.1 206 ≤ 65535 := Tm3.1 206
  replace h4 : (m.1 213) = 0 := h4
  refine T_ld 8 (.ref 178) rfl (fun _ => rfl) ?_
  refine K_gf 11 (.ref 12) rfl rfl kd_178 rfl rfl rfl ?_
  refine K_gf 14 (.int (i32 (m.1 216))) rfl rfl kd_12 rfl (kval_c2 (k := 216) (F := fun x => .int (i32 x)) rfl (show (m3.1 216) = (m.1 216) from (fr1 Fm3 216 rfl))) rfl ?_
  refine T_sto 15 [(1, .int (i32 (m.1 216))), (0, .ref 178)] rfl (fun _ => rfl) ?_
  refine T_ld 16 (.ref 178) rfl (fun _ => rfl) ?_
  refine K_gf 19 (.ref 6) rfl rfl kd_178 rfl rfl rfl ?_
  refine T_ld 22 (.int (i32 302)) rfl (fun _ => rfl) ?_
  refine T_ld 23 (.int (i32 (m.1 216))) rfl (fun _ => rfl) ?_
  refine T_ld 25 (.int (i32 16)) rfl (fun _ => rfl) ?_
  refine T_callx 28 75 [.ref 6, .int (i32 302), .int (i32 (m.1 216)), .int (i32 16)] [] rfl (fun _ => rfl) rfl rfl (c_tx_makeNew w (mO m3 [] []) c N D (by omega) Tm3 302 (m.1 216) 16 ⟨by decide, by decide⟩ (r32 (by omega) (by omega)) ⟨by decide, by decide⟩ (show 0 ≤ (302 : Int) ∧ (302 : Int) ≤ 310 by omega) (show 0 ≤ (m.1 216) ∧ (16 : Int) ≤ 16 by omega)) (fun rr9 k10 => ?_)
  rcases k10 with ⟨m11, Tm11, Fm11, h12, h13, h14, rfl⟩ | ⟨xx17, m15, hx16, Tm15, Fm15, rfl⟩
  rotate_left
  · skip
    refine Or.inr ⟨_, _, _, _, rfl, ?_⟩
    exact Or.inr ⟨xx17, (mO m15 [] []), (hx16), Tm15, (fr_m (fr_s Fm15 (fr_m (fr_s Fm3 (fr_m fr_0 rfl rfl) rfl rfl) rfl rfl) rfl rfl) rfl rfl), rfl⟩
  refine Or.inl ⟨_, _, _, _, rfl, ?_⟩
  refine K_nb (st' := []) rfl ?_
  have g18 : 0 ≤ m11.1 203 ∧ m11.1 203 ≤ 90 := Tm11.1 203
  have g19 : (-1) ≤ m11.1 206 ∧ m11.1 206 ≤ 65535 := Tm11.1 206
  replace h12 : (m.1 216) < (16 : Int) := h12
  replace h13 : KMk (m3.1 203) (m11.1 203) (m3.2 8) (m11.2 8) (m3.2 9) (m11.2 9) (302 : Int) (m.1 216) := h13
  rewrite [(show (m3.1 203) = (m.1 203) from (fr1 Fm3 203 rfl)), (show (m3.2 8) = (m.2 8) from (fr2 Fm3 8 rfl)), (show (m3.2 9) = (m.2 9) from (fr2 Fm3 9 rfl))] at h13
  have hMk := h13
  replace h14 : (m3.1 213) = 0 := h14
  rewrite [(show (m3.1 213) = (m.1 213) from (fr1 Fm3 213 rfl))] at h14
  refine T_ld 29 (.ref 178) rfl (fun _ => rfl) ?_
  refine K_gf 32 (.ref 12) rfl rfl kd_178 rfl rfl rfl ?_
  refine T_ld 33 (.ref 12) rfl (fun _ => rfl) ?_
  refine K_gf 36 (.int (i32 (m.1 216))) rfl rfl kd_12 rfl (kval_c2 (k := 216) (F := fun x => .int (i32 x)) rfl (show (m11.1 216) = (m.1 216) from ((fr1 Fm11 216 rfl).trans (fr1 Fm3 216 rfl)))) rfl ?_
  refine T_ld 37 (.int (i32 1)) rfl (fun _ => rfl) ?_
  refine T_iadd 38 rfl rfl ?_
  refine K_pf (l' := [(216, (m.1 216) + 1)]) 41 ((m.1 216) + 1) rfl rfl kd_12 rfl rfl rfl rfl rfl rfl rfl ?_
  have g20 : 0 ≤ (m.1 216) + 1 ∧ (m.1 216) + 1 ≤ 16 := ⟨by omega, by omega⟩
  have pKP : KPp (m11.1 203) (m11.2 8) (m11.2 9) (m.1 214) (m.1 215) ((m.1 216) + 1) (m.1 217) (m.1 221) (m.1 223) (m.1 219) := KPp_mk pKP hMk (by omega) (by omega) (by omega) (by omega) (by omega) (by omega) (by omega) (by omega)
  refine T_ld 42 (.ref 178) rfl (fun _ => rfl) ?_
  refine K_gf 45 (.ref 6) rfl rfl kd_178 rfl rfl rfl ?_
  refine T_ld 47 (.int (i32 58)) rfl (fun _ => rfl) ?_
  refine T_callx 50 78 [.ref 6, .int (i32 58)] [] rfl (fun _ => rfl) rfl rfl (c_tx_expect w (mO m11 [(216, (m.1 216) + 1)] []) c N D (by omega) (KTy_mO Tm11 rfl rfl ⟨g20, trivial⟩ trivial) 58 ⟨by decide, by decide⟩) (fun rr21 k22 => ?_)
  rcases k22 with ⟨m23, Tm23, Fm23, h24, h25, rfl⟩ | ⟨xx28, m26, hx27, Tm26, Fm26, rfl⟩
  rotate_left
  · skip
    refine Or.inr ⟨_, _, _, _, rfl, ?_⟩
    exact Or.inr ⟨xx28, (mO m26 [] []), (hx27), Tm26, (fr_m (fr_s Fm26 (fr_m (fr_s Fm11 (fr_m (fr_s Fm3 (fr_m fr_0 rfl rfl) rfl rfl) rfl rfl) rfl rfl) rfl rfl) rfl rfl) rfl rfl), rfl⟩
  refine Or.inl ⟨_, _, _, _, rfl, ?_⟩
  refine K_nb (st' := []) rfl ?_
  have g29 : (-1) ≤ m23.1 206 ∧ m23.1 206 ≤ 65535 := Tm23.1 206
  replace h24 : (m11.1 206) = (58 : Int) := h24
  replace h25 : (m11.1 213) = 0 := h25
  rewrite [(show (m11.1 213) = (m.1 213) from ((fr1 Fm11 213 rfl).trans (fr1 Fm3 213 rfl)))] at h25
  refine T_ld 51 (.ref 178) rfl (fun _ => rfl) ?_
  refine K_gf 54 (.ref 12) rfl rfl kd_178 rfl rfl rfl ?_
  refine K_gf 57 (.ref 17) rfl rfl kd_12 rfl rfl rfl ?_
  refine T_ld 58 (.int (i32 (m.1 216))) rfl (fun _ => rfl) ?_
  refine T_ld 59 (.ref 178) rfl (fun _ => rfl) ?_
  refine K_gf 62 (.ref 6) rfl rfl kd_178 rfl rfl rfl ?_
  refine T_ld 63 (.int (i32 1)) rfl (fun _ => rfl) ?_
  refine T_ld 65 (.int (i32 64)) rfl (fun _ => rfl) ?_
  refine T_callx 68 81 [.ref 6, .int (i32 1), .int (i32 64)] [.int (i32 (m.1 216)), .ref 17] rfl (fun _ => rfl) rfl rfl (c_tx_within w (mO m23 [] []) c N D (by omega) Tm23 1 64 ⟨by decide, by decide⟩ ⟨by decide, by decide⟩ (show 0 ≤ (1 : Int) ∧ (1 : Int) ≤ (64 : Int) ∧ (64 : Int) ≤ 64 by omega)) (fun rr30 k31 => ?_)
  rcases k31 with ⟨m32, wn, Tm32, Fm32, g33, h34, h35, rfl⟩ | ⟨xx38, m36, hx37, Tm36, Fm36, rfl⟩
  rotate_left
  · skip
    refine Or.inr ⟨_, _, _, _, rfl, ?_⟩
    exact Or.inr ⟨xx38, (mO m36 [] []), (hx37), Tm36, (fr_m (fr_s Fm36 (fr_m (fr_s Fm23 (fr_m (fr_s Fm11 (fr_m (fr_s Fm3 (fr_m fr_0 rfl rfl) rfl rfl) rfl rfl) rfl rfl) rfl rfl) rfl rfl) rfl rfl) rfl rfl) rfl rfl), rfl⟩
  refine Or.inl ⟨_, _, _, _, rfl, ?_⟩
  refine K_nb (st' := [.int (i32 wn), .int (i32 (m.1 216)), .ref 17]) rfl ?_
  obtain ⟨g33a, g33b⟩ := g33
  have g39 : (-1) ≤ m32.1 206 ∧ m32.1 206 ≤ 65535 := Tm32.1 206
  replace h34 : (1 : Int) ≤ wn ∧ wn ≤ (64 : Int) := h34
  replace h35 : (m23.1 213) = 0 := h35
  rewrite [(show (m23.1 213) = (m.1 213) from ((fr1 Fm23 213 rfl).trans ((fr1 Fm11 213 rfl).trans (fr1 Fm3 213 rfl))))] at h35
  have G40 : ∀ j, 0 ≤ (upI (m.2 14) (m.1 216) wn) j ∧ (upI (m.2 14) (m.1 216) wn) j ≤ 64 := upI_rg (hT.2.1 14) ⟨by omega, by omega⟩
  refine K_iast (a' := [(14, upI (m.2 14) (m.1 216) wn)]) 69 14 (m.2 14) rfl rfl rfl (by omega) (show (m.1 216) < (16 : Int) by omega) (show (m32.2 14) = (m.2 14) from ((fr2 Fm32 14 rfl).trans ((fr2 Fm23 14 rfl).trans ((fr2 Fm11 14 rfl).trans (fr2 Fm3 14 rfl))))) rfl ?_
  refine T_ld 70 (.ref 178) rfl (fun _ => rfl) ?_
  refine K_gf 73 (.ref 6) rfl rfl kd_178 rfl rfl rfl ?_
  refine T_ld 75 (.int (i32 59)) rfl (fun _ => rfl) ?_
  refine T_callx 78 78 [.ref 6, .int (i32 59)] [] rfl (fun _ => rfl) rfl rfl (c_tx_expect w (mO m32 [] [(14, upI (m.2 14) (m.1 216) wn)]) c N D (by omega) (KTy_mO Tm32 rfl rfl trivial ⟨G40, trivial⟩) 59 ⟨by decide, by decide⟩) (fun rr41 k42 => ?_)
  rcases k42 with ⟨m43, Tm43, Fm43, h44, h45, rfl⟩ | ⟨xx48, m46, hx47, Tm46, Fm46, rfl⟩
  rotate_left
  · skip
    refine Or.inr ⟨_, _, _, _, rfl, ?_⟩
    exact Or.inr ⟨xx48, (mO m46 [] []), (hx47), Tm46, (fr_m (fr_s Fm46 (fr_m (fr_s Fm32 (fr_m (fr_s Fm23 (fr_m (fr_s Fm11 (fr_m (fr_s Fm3 (fr_m fr_0 rfl rfl) rfl rfl) rfl rfl) rfl rfl) rfl rfl) rfl rfl) rfl rfl) rfl rfl) rfl rfl) rfl rfl) rfl rfl), rfl⟩
  refine Or.inl ⟨_, _, _, _, rfl, ?_⟩
  refine K_nb (st' := []) rfl ?_
  have g49 : (-1) ≤ m43.1 206 ∧ m43.1 206 ≤ 65535 := Tm43.1 206
  replace h44 : (m32.1 206) = (59 : Int) := h44
  replace h45 : (m32.1 213) = 0 := h45
  rewrite [(show (m32.1 213) = (m.1 213) from ((fr1 Fm32 213 rfl).trans ((fr1 Fm23 213 rfl).trans ((fr1 Fm11 213 rfl).trans (fr1 Fm3 213 rfl)))))] at h45
  refine T_ret rfl (fun _ => rfl) ?_
  exact Or.inl ⟨(mO m43 [] []), Tm43, (fr_m (fr_s Fm43 (fr_m (fr_s Fm32 (fr_m (fr_s Fm23 (fr_m (fr_s Fm11 (fr_m (fr_s Fm3 (fr_m fr_0 rfl rfl) rfl rfl) rfl rfl) rfl rfl) rfl rfl) rfl rfl) rfl rfl) rfl rfl) rfl rfl) rfl rfl) rfl rfl), (show KPp (m43.1 203) (m43.2 8) (m43.2 9) (m.1 214) (m.1 215) (m43.1 216) (m.1 217) (m.1 221) (m.1 223) (m.1 219) by rewrite [(show (m43.1 203) = (m11.1 203) from ((fr1 Fm43 203 rfl).trans ((fr1 Fm32 203 rfl).trans (fr1 Fm23 203 rfl)))), (show (m43.2 8) = (m11.2 8) from ((fr2 Fm43 8 rfl).trans ((fr2 Fm32 8 rfl).trans (fr2 Fm23 8 rfl)))), (show (m43.2 9) = (m11.2 9) from ((fr2 Fm43 9 rfl).trans ((fr2 Fm32 9 rfl).trans (fr2 Fm23 9 rfl)))), (show (m43.1 216) = ((m.1 216) + 1) from ((fr1 Fm43 216 rfl).trans ((fr1 Fm32 216 rfl).trans (fr1 Fm23 216 rfl))))]; first | (exact pKP) | (exfalso; omega)), (show (m.1 216) ≤ (m43.1 216) by rewrite [(show (m43.1 216) = ((m.1 216) + 1) from ((fr1 Fm43 216 rfl).trans ((fr1 Fm32 216 rfl).trans (fr1 Fm23 216 rfl))))]; omega), rfl⟩
def fF_rd_array : List Nat := [203, 205, 206, 207, 208, 209, 210, 211, 212, 217]
def fA_rd_array : List Nat := [6, 7, 8, 9, 15, 16]
def Q_rd_array (m : mR) (c : Nat → Option am_C) (N : Nat) : ag_Re af_T → Prop := fun R => (∃ (M : mR), KTy M ∧ fr fF_rd_array fA_rd_array m M ∧ (KPp (M.1 203) (M.2 8) (M.2 9) (m.1 214) (m.1 215) (m.1 216) (M.1 217) (m.1 221) (m.1 223) (m.1 219)) ∧ R = (.inl (none), (khp M c, N), 0, 0)) ∨ (∃ (x : Nat) (M : mR), (x = 0) ∧ (KTy M) ∧ (fr fF_rd_array fA_rd_array m M) ∧ R = (.inr x, (khp M c, N), 1, 6))
set_option maxHeartbeats 3000000 in
theorem c_rd_array (w : wX) (m : mR) (c : Nat → Option am_C) (N D : Nat) (hD : 9 ≤ D) (hT : KTy m) (pKP : KPp (m.1 203) (m.2 8) (m.2 9) (m.1 214) (m.1 215) (m.1 216) (m.1 217) (m.1 221) (m.1 223) (m.1 219)) : TC w D 86 [.ref 178] (khp m c, N) (Q_rd_array m c N) := by
  obtain ⟨D, rfl⟩ : ∃ k, D = k + 1 := ⟨D - 1, by omega⟩
  have f203 : 0 ≤ m.1 203 ∧ m.1 203 ≤ 90 := hT.1 203
  have f206 : (-1) ≤ m.1 206 ∧ m.1 206 ≤ 65535 := hT.1 206
  have f217 : 0 ≤ m.1 217 ∧ m.1 217 ≤ 8 := hT.1 217
  have f213 : 0 ≤ m.1 213 ∧ m.1 213 ≤ 1 := hT.1 213
  have f214 : 0 ≤ m.1 214 ∧ m.1 214 ≤ 12 := hT.1 214
  have f215 : 0 ≤ m.1 215 ∧ m.1 215 ≤ 12 := hT.1 215
  have f216 : 0 ≤ m.1 216 ∧ m.1 216 ≤ 16 := hT.1 216
  have f219 : 0 ≤ m.1 219 ∧ m.1 219 ≤ 8 := hT.1 219
  have f221 : 0 ≤ m.1 221 ∧ m.1 221 ≤ 16 := hT.1 221
  have f223 : 0 ≤ m.1 223 ∧ m.1 223 ≤ 16 := hT.1 223
  refine Tc_of rfl ?_
  rw [show (khp m c, N) = (khp (mO m [] []) c, N) from by rw [mO_nil m]]
  show TT w D pm_86 (0, [(0, .ref 178)], [], (khp (mO m [] []) c, N), 0, 0) (Q_rd_array m c N)
  refine T_ld 1 (.ref 178) rfl (fun _ => rfl) ?_
  refine K_gf 4 (.ref 6) rfl rfl kd_178 rfl rfl rfl ?_
  refine T_callx 7 50 [.ref 6] [] rfl (fun _ => rfl) rfl rfl (c_tx_advance w (mO m [] []) c N D (by omega) hT ) (fun rr1 k2 => ?_)
  rcases k2 with ⟨m3, Tm3, Fm3, h4, rfl⟩ | ⟨xx7, m5, hx6, Tm5, Fm5, rfl⟩
  rotate_left
  · skip
    refine Or.inr ⟨_, _, _, _, rfl, ?_⟩
    exact Or.inr ⟨xx7, (mO m5 [] []), (hx6), Tm5, (fr_m (fr_s Fm5 (fr_m fr_0 rfl rfl) rfl rfl) rfl rfl), rfl⟩
  refine Or.inl ⟨_, _, _, _, rfl, ?_⟩
  refine K_nb (st' := []) rfl ?_
  have g8 : (-1) ≤ m3.1 206 ∧ m3.1 206 ≤ 65535 := Tm3.1 206
  replace h4 : (m.1 213) = 0 := h4
  refine T_ld 8 (.ref 178) rfl (fun _ => rfl) ?_
  refine K_gf 11 (.ref 12) rfl rfl kd_178 rfl rfl rfl ?_
  refine K_gf 14 (.int (i32 (m.1 217))) rfl rfl kd_12 rfl (kval_c2 (k := 217) (F := fun x => .int (i32 x)) rfl (show (m3.1 217) = (m.1 217) from (fr1 Fm3 217 rfl))) rfl ?_
  refine T_sto 15 [(1, .int (i32 (m.1 217))), (0, .ref 178)] rfl (fun _ => rfl) ?_
  refine T_ld 16 (.ref 178) rfl (fun _ => rfl) ?_
  refine K_gf 19 (.ref 6) rfl rfl kd_178 rfl rfl rfl ?_
  refine T_ld 22 (.int (i32 303)) rfl (fun _ => rfl) ?_
  refine T_ld 23 (.int (i32 (m.1 217))) rfl (fun _ => rfl) ?_
  refine T_ld 25 (.int (i32 8)) rfl (fun _ => rfl) ?_
  refine T_callx 28 75 [.ref 6, .int (i32 303), .int (i32 (m.1 217)), .int (i32 8)] [] rfl (fun _ => rfl) rfl rfl (c_tx_makeNew w (mO m3 [] []) c N D (by omega) Tm3 303 (m.1 217) 8 ⟨by decide, by decide⟩ (r32 (by omega) (by omega)) ⟨by decide, by decide⟩ (show 0 ≤ (303 : Int) ∧ (303 : Int) ≤ 310 by omega) (show 0 ≤ (m.1 217) ∧ (8 : Int) ≤ 16 by omega)) (fun rr9 k10 => ?_)
  rcases k10 with ⟨m11, Tm11, Fm11, h12, h13, h14, rfl⟩ | ⟨xx17, m15, hx16, Tm15, Fm15, rfl⟩
  rotate_left
  · skip
    refine Or.inr ⟨_, _, _, _, rfl, ?_⟩
    exact Or.inr ⟨xx17, (mO m15 [] []), (hx16), Tm15, (fr_m (fr_s Fm15 (fr_m (fr_s Fm3 (fr_m fr_0 rfl rfl) rfl rfl) rfl rfl) rfl rfl) rfl rfl), rfl⟩
  refine Or.inl ⟨_, _, _, _, rfl, ?_⟩
  refine K_nb (st' := []) rfl ?_
  have g18 : 0 ≤ m11.1 203 ∧ m11.1 203 ≤ 90 := Tm11.1 203
  have g19 : (-1) ≤ m11.1 206 ∧ m11.1 206 ≤ 65535 := Tm11.1 206
  replace h12 : (m.1 217) < (8 : Int) := h12
  replace h13 : KMk (m3.1 203) (m11.1 203) (m3.2 8) (m11.2 8) (m3.2 9) (m11.2 9) (303 : Int) (m.1 217) := h13
  rewrite [(show (m3.1 203) = (m.1 203) from (fr1 Fm3 203 rfl)), (show (m3.2 8) = (m.2 8) from (fr2 Fm3 8 rfl)), (show (m3.2 9) = (m.2 9) from (fr2 Fm3 9 rfl))] at h13
  have hMk := h13
  replace h14 : (m3.1 213) = 0 := h14
  rewrite [(show (m3.1 213) = (m.1 213) from (fr1 Fm3 213 rfl))] at h14
  refine T_ld 29 (.ref 178) rfl (fun _ => rfl) ?_
  refine K_gf 32 (.ref 12) rfl rfl kd_178 rfl rfl rfl ?_
  refine T_ld 33 (.ref 12) rfl (fun _ => rfl) ?_
  refine K_gf 36 (.int (i32 (m.1 217))) rfl rfl kd_12 rfl (kval_c2 (k := 217) (F := fun x => .int (i32 x)) rfl (show (m11.1 217) = (m.1 217) from ((fr1 Fm11 217 rfl).trans (fr1 Fm3 217 rfl)))) rfl ?_
  refine T_ld 37 (.int (i32 1)) rfl (fun _ => rfl) ?_
  refine T_iadd 38 rfl rfl ?_
  refine K_pf (l' := [(217, (m.1 217) + 1)]) 41 ((m.1 217) + 1) rfl rfl kd_12 rfl rfl rfl rfl rfl rfl rfl ?_
  have g20 : 0 ≤ (m.1 217) + 1 ∧ (m.1 217) + 1 ≤ 8 := ⟨by omega, by omega⟩
  have pKP : KPp (m11.1 203) (m11.2 8) (m11.2 9) (m.1 214) (m.1 215) (m.1 216) ((m.1 217) + 1) (m.1 221) (m.1 223) (m.1 219) := KPp_mk pKP hMk (by omega) (by omega) (by omega) (by omega) (by omega) (by omega) (by omega) (by omega)
  refine T_ld 42 (.ref 178) rfl (fun _ => rfl) ?_
  refine K_gf 45 (.ref 6) rfl rfl kd_178 rfl rfl rfl ?_
  refine T_ld 47 (.int (i32 58)) rfl (fun _ => rfl) ?_
  refine T_callx 50 78 [.ref 6, .int (i32 58)] [] rfl (fun _ => rfl) rfl rfl (c_tx_expect w (mO m11 [(217, (m.1 217) + 1)] []) c N D (by omega) (KTy_mO Tm11 rfl rfl ⟨g20, trivial⟩ trivial) 58 ⟨by decide, by decide⟩) (fun rr21 k22 => ?_)
  rcases k22 with ⟨m23, Tm23, Fm23, h24, h25, rfl⟩ | ⟨xx28, m26, hx27, Tm26, Fm26, rfl⟩
  rotate_left
  · skip
    refine Or.inr ⟨_, _, _, _, rfl, ?_⟩
    exact Or.inr ⟨xx28, (mO m26 [] []), (hx27), Tm26, (fr_m (fr_s Fm26 (fr_m (fr_s Fm11 (fr_m (fr_s Fm3 (fr_m fr_0 rfl rfl) rfl rfl) rfl rfl) rfl rfl) rfl rfl) rfl rfl) rfl rfl), rfl⟩
  refine Or.inl ⟨_, _, _, _, rfl, ?_⟩
  refine K_nb (st' := []) rfl ?_
  have g29 : (-1) ≤ m23.1 206 ∧ m23.1 206 ≤ 65535 := Tm23.1 206
  replace h24 : (m11.1 206) = (58 : Int) := h24
  replace h25 : (m11.1 213) = 0 := h25
  rewrite [(show (m11.1 213) = (m.1 213) from ((fr1 Fm11 213 rfl).trans (fr1 Fm3 213 rfl)))] at h25
  refine T_ld 51 (.ref 178) rfl (fun _ => rfl) ?_
  refine K_gf 54 (.ref 12) rfl rfl kd_178 rfl rfl rfl ?_
  refine K_gf 57 (.ref 18) rfl rfl kd_12 rfl rfl rfl ?_
  refine T_ld 58 (.int (i32 (m.1 217))) rfl (fun _ => rfl) ?_
  refine T_ld 59 (.ref 178) rfl (fun _ => rfl) ?_
  refine K_gf 62 (.ref 6) rfl rfl kd_178 rfl rfl rfl ?_
  refine T_ld 63 (.int (i32 1)) rfl (fun _ => rfl) ?_
  refine T_ld 65 (.int (i32 64)) rfl (fun _ => rfl) ?_
  refine T_callx 68 81 [.ref 6, .int (i32 1), .int (i32 64)] [.int (i32 (m.1 217)), .ref 18] rfl (fun _ => rfl) rfl rfl (c_tx_within w (mO m23 [] []) c N D (by omega) Tm23 1 64 ⟨by decide, by decide⟩ ⟨by decide, by decide⟩ (show 0 ≤ (1 : Int) ∧ (1 : Int) ≤ (64 : Int) ∧ (64 : Int) ≤ 64 by omega)) (fun rr30 k31 => ?_)
  rcases k31 with ⟨m32, wn, Tm32, Fm32, g33, h34, h35, rfl⟩ | ⟨xx38, m36, hx37, Tm36, Fm36, rfl⟩
  rotate_left
  · skip
    refine Or.inr ⟨_, _, _, _, rfl, ?_⟩
    exact Or.inr ⟨xx38, (mO m36 [] []), (hx37), Tm36, (fr_m (fr_s Fm36 (fr_m (fr_s Fm23 (fr_m (fr_s Fm11 (fr_m (fr_s Fm3 (fr_m fr_0 rfl rfl) rfl rfl) rfl rfl) rfl rfl) rfl rfl) rfl rfl) rfl rfl) rfl rfl) rfl rfl), rfl⟩
  refine Or.inl ⟨_, _, _, _, rfl, ?_⟩
  refine K_nb (st' := [.int (i32 wn), .int (i32 (m.1 217)), .ref 18]) rfl ?_
  obtain ⟨g33a, g33b⟩ := g33
  have g39 : (-1) ≤ m32.1 206 ∧ m32.1 206 ≤ 65535 := Tm32.1 206
  replace h34 : (1 : Int) ≤ wn ∧ wn ≤ (64 : Int) := h34
  replace h35 : (m23.1 213) = 0 := h35
  rewrite [(show (m23.1 213) = (m.1 213) from ((fr1 Fm23 213 rfl).trans ((fr1 Fm11 213 rfl).trans (fr1 Fm3 213 rfl))))] at h35
  have G40 : ∀ j, 0 ≤ (upI (m.2 15) (m.1 217) wn) j ∧ (upI (m.2 15) (m.1 217) wn) j ≤ 64 := upI_rg (hT.2.1 15) ⟨by omega, by omega⟩
  refine K_iast (a' := [(15, upI (m.2 15) (m.1 217) wn)]) 69 15 (m.2 15) rfl rfl rfl (by omega) (show (m.1 217) < (8 : Int) by omega) (show (m32.2 15) = (m.2 15) from ((fr2 Fm32 15 rfl).trans ((fr2 Fm23 15 rfl).trans ((fr2 Fm11 15 rfl).trans (fr2 Fm3 15 rfl))))) rfl ?_
  refine T_ld 70 (.ref 178) rfl (fun _ => rfl) ?_
  refine K_gf 73 (.ref 6) rfl rfl kd_178 rfl rfl rfl ?_
  refine T_ld 75 (.int (i32 91)) rfl (fun _ => rfl) ?_
  refine T_callx 78 78 [.ref 6, .int (i32 91)] [] rfl (fun _ => rfl) rfl rfl (c_tx_expect w (mO m32 [] [(15, upI (m.2 15) (m.1 217) wn)]) c N D (by omega) (KTy_mO Tm32 rfl rfl trivial ⟨G40, trivial⟩) 91 ⟨by decide, by decide⟩) (fun rr41 k42 => ?_)
  rcases k42 with ⟨m43, Tm43, Fm43, h44, h45, rfl⟩ | ⟨xx48, m46, hx47, Tm46, Fm46, rfl⟩
  rotate_left
  · skip
    refine Or.inr ⟨_, _, _, _, rfl, ?_⟩
    exact Or.inr ⟨xx48, (mO m46 [] []), (hx47), Tm46, (fr_m (fr_s Fm46 (fr_m (fr_s Fm32 (fr_m (fr_s Fm23 (fr_m (fr_s Fm11 (fr_m (fr_s Fm3 (fr_m fr_0 rfl rfl) rfl rfl) rfl rfl) rfl rfl) rfl rfl) rfl rfl) rfl rfl) rfl rfl) rfl rfl) rfl rfl) rfl rfl), rfl⟩
  refine Or.inl ⟨_, _, _, _, rfl, ?_⟩
  refine K_nb (st' := []) rfl ?_
  have g49 : (-1) ≤ m43.1 206 ∧ m43.1 206 ≤ 65535 := Tm43.1 206
  replace h44 : (m32.1 206) = (91 : Int) := h44
  replace h45 : (m32.1 213) = 0 := h45
  rewrite [(show (m32.1 213) = (m.1 213) from ((fr1 Fm32 213 rfl).trans ((fr1 Fm23 213 rfl).trans ((fr1 Fm11 213 rfl).trans (fr1 Fm3 213 rfl)))))] at h45
  refine T_ld 79 (.ref 178) rfl (fun _ => rfl) ?_
  refine K_gf 82 (.ref 12) rfl rfl kd_178 rfl rfl rfl ?_
  refine K_gf 85 (.ref 19) rfl rfl kd_12 rfl rfl rfl ?_
  refine T_ld 86 (.int (i32 (m.1 217))) rfl (fun _ => rfl) ?_
  refine T_ld 87 (.ref 178) rfl (fun _ => rfl) ?_
  refine K_gf 90 (.ref 6) rfl rfl kd_178 rfl rfl rfl ?_
  refine T_ld 91 (.int (i32 1)) rfl (fun _ => rfl) ?_
  refine T_ld 93 (.int (i32 64)) rfl (fun _ => rfl) ?_
  refine T_callx 96 81 [.ref 6, .int (i32 1), .int (i32 64)] [.int (i32 (m.1 217)), .ref 19] rfl (fun _ => rfl) rfl rfl (c_tx_within w (mO m43 [] []) c N D (by omega) Tm43 1 64 ⟨by decide, by decide⟩ ⟨by decide, by decide⟩ (show 0 ≤ (1 : Int) ∧ (1 : Int) ≤ (64 : Int) ∧ (64 : Int) ≤ 64 by omega)) (fun rr50 k51 => ?_)
  rcases k51 with ⟨m52, wn53, Tm52, Fm52, g54, h55, h56, rfl⟩ | ⟨xx59, m57, hx58, Tm57, Fm57, rfl⟩
  rotate_left
  · skip
    refine Or.inr ⟨_, _, _, _, rfl, ?_⟩
    exact Or.inr ⟨xx59, (mO m57 [] []), (hx58), Tm57, (fr_m (fr_s Fm57 (fr_m (fr_s Fm43 (fr_m (fr_s Fm32 (fr_m (fr_s Fm23 (fr_m (fr_s Fm11 (fr_m (fr_s Fm3 (fr_m fr_0 rfl rfl) rfl rfl) rfl rfl) rfl rfl) rfl rfl) rfl rfl) rfl rfl) rfl rfl) rfl rfl) rfl rfl) rfl rfl) rfl rfl) rfl rfl), rfl⟩
  refine Or.inl ⟨_, _, _, _, rfl, ?_⟩
  refine K_nb (st' := [.int (i32 wn53), .int (i32 (m.1 217)), .ref 19]) rfl ?_
  obtain ⟨g54a, g54b⟩ := g54
  have g60 : (-1) ≤ m52.1 206 ∧ m52.1 206 ≤ 65535 := Tm52.1 206
  replace h55 : (1 : Int) ≤ wn53 ∧ wn53 ≤ (64 : Int) := h55
  replace h56 : (m43.1 213) = 0 := h56
  rewrite [(show (m43.1 213) = (m.1 213) from ((fr1 Fm43 213 rfl).trans ((fr1 Fm32 213 rfl).trans ((fr1 Fm23 213 rfl).trans ((fr1 Fm11 213 rfl).trans (fr1 Fm3 213 rfl))))))] at h56
  have G61 : ∀ j, 0 ≤ (upI (m.2 16) (m.1 217) wn53) j ∧ (upI (m.2 16) (m.1 217) wn53) j ≤ 64 := upI_rg (hT.2.1 16) ⟨by omega, by omega⟩
  refine K_iast (a' := [(16, upI (m.2 16) (m.1 217) wn53)]) 97 16 (m.2 16) rfl rfl rfl (by omega) (show (m.1 217) < (8 : Int) by omega) (show (m52.2 16) = (m.2 16) from ((fr2 Fm52 16 rfl).trans ((fr2 Fm43 16 rfl).trans ((fr2 Fm32 16 rfl).trans ((fr2 Fm23 16 rfl).trans ((fr2 Fm11 16 rfl).trans (fr2 Fm3 16 rfl))))))) rfl ?_
  refine T_ld 98 (.ref 178) rfl (fun _ => rfl) ?_
  refine K_gf 101 (.ref 6) rfl rfl kd_178 rfl rfl rfl ?_
  refine T_ld 103 (.int (i32 93)) rfl (fun _ => rfl) ?_
  refine T_callx 106 78 [.ref 6, .int (i32 93)] [] rfl (fun _ => rfl) rfl rfl (c_tx_expect w (mO m52 [] [(16, upI (m.2 16) (m.1 217) wn53)]) c N D (by omega) (KTy_mO Tm52 rfl rfl trivial ⟨G61, trivial⟩) 93 ⟨by decide, by decide⟩) (fun rr62 k63 => ?_)
  rcases k63 with ⟨m64, Tm64, Fm64, h65, h66, rfl⟩ | ⟨xx69, m67, hx68, Tm67, Fm67, rfl⟩
  rotate_left
  · skip
    refine Or.inr ⟨_, _, _, _, rfl, ?_⟩
    exact Or.inr ⟨xx69, (mO m67 [] []), (hx68), Tm67, (fr_m (fr_s Fm67 (fr_m (fr_s Fm52 (fr_m (fr_s Fm43 (fr_m (fr_s Fm32 (fr_m (fr_s Fm23 (fr_m (fr_s Fm11 (fr_m (fr_s Fm3 (fr_m fr_0 rfl rfl) rfl rfl) rfl rfl) rfl rfl) rfl rfl) rfl rfl) rfl rfl) rfl rfl) rfl rfl) rfl rfl) rfl rfl) rfl rfl) rfl rfl) rfl rfl) rfl rfl), rfl⟩
  refine Or.inl ⟨_, _, _, _, rfl, ?_⟩
  refine K_nb (st' := []) rfl ?_
  have g70 : (-1) ≤ m64.1 206 ∧ m64.1 206 ≤ 65535 := Tm64.1 206
  replace h65 : (m52.1 206) = (93 : Int) := h65
  replace h66 : (m52.1 213) = 0 := h66
  rewrite [(show (m52.1 213) = (m.1 213) from ((fr1 Fm52 213 rfl).trans ((fr1 Fm43 213 rfl).trans ((fr1 Fm32 213 rfl).trans ((fr1 Fm23 213 rfl).trans ((fr1 Fm11 213 rfl).trans (fr1 Fm3 213 rfl)))))))] at h66
  refine T_ld 107 (.ref 178) rfl (fun _ => rfl) ?_
  refine K_gf 110 (.ref 6) rfl rfl kd_178 rfl rfl rfl ?_
  refine T_ld 112 (.int (i32 59)) rfl (fun _ => rfl) ?_
  refine T_callx 115 78 [.ref 6, .int (i32 59)] [] rfl (fun _ => rfl) rfl rfl (c_tx_expect w (mO m64 [] []) c N D (by omega) Tm64 59 ⟨by decide, by decide⟩) (fun rr71 k72 => ?_)
  rcases k72 with ⟨m73, Tm73, Fm73, h74, h75, rfl⟩ | ⟨xx78, m76, hx77, Tm76, Fm76, rfl⟩
  rotate_left
  · skip
    refine Or.inr ⟨_, _, _, _, rfl, ?_⟩
    exact Or.inr ⟨xx78, (mO m76 [] []), (hx77), Tm76, (fr_m (fr_s Fm76 (fr_m (fr_s Fm64 (fr_m (fr_s Fm52 (fr_m (fr_s Fm43 (fr_m (fr_s Fm32 (fr_m (fr_s Fm23 (fr_m (fr_s Fm11 (fr_m (fr_s Fm3 (fr_m fr_0 rfl rfl) rfl rfl) rfl rfl) rfl rfl) rfl rfl) rfl rfl) rfl rfl) rfl rfl) rfl rfl) rfl rfl) rfl rfl) rfl rfl) rfl rfl) rfl rfl) rfl rfl) rfl rfl) rfl rfl), rfl⟩
  refine Or.inl ⟨_, _, _, _, rfl, ?_⟩
  refine K_nb (st' := []) rfl ?_
  have g79 : (-1) ≤ m73.1 206 ∧ m73.1 206 ≤ 65535 := Tm73.1 206
  replace h74 : (m64.1 206) = (59 : Int) := h74
  replace h75 : (m64.1 213) = 0 := h75
  rewrite [(show (m64.1 213) = (m.1 213) from ((fr1 Fm64 213 rfl).trans ((fr1 Fm52 213 rfl).trans ((fr1 Fm43 213 rfl).trans ((fr1 Fm32 213 rfl).trans ((fr1 Fm23 213 rfl).trans ((fr1 Fm11 213 rfl).trans (fr1 Fm3 213 rfl))))))))] at h75
  refine T_ret rfl (fun _ => rfl) ?_
  exact Or.inl ⟨(mO m73 [] []), Tm73, (fr_m (fr_s Fm73 (fr_m (fr_s Fm64 (fr_m (fr_s Fm52 (fr_m (fr_s Fm43 (fr_m (fr_s Fm32 (fr_m (fr_s Fm23 (fr_m (fr_s Fm11 (fr_m (fr_s Fm3 (fr_m fr_0 rfl rfl) rfl rfl) rfl rfl) rfl rfl) rfl rfl) rfl rfl) rfl rfl) rfl rfl) rfl rfl) rfl rfl) rfl rfl) rfl rfl) rfl rfl) rfl rfl) rfl rfl) rfl rfl) rfl rfl), (show KPp (m73.1 203) (m73.2 8) (m73.2 9) (m.1 214) (m.1 215) (m.1 216) (m73.1 217) (m.1 221) (m.1 223) (m.1 219) by rewrite [(show (m73.1 203) = (m11.1 203) from ((fr1 Fm73 203 rfl).trans ((fr1 Fm64 203 rfl).trans ((fr1 Fm52 203 rfl).trans ((fr1 Fm43 203 rfl).trans ((fr1 Fm32 203 rfl).trans (fr1 Fm23 203 rfl))))))), (show (m73.2 8) = (m11.2 8) from ((fr2 Fm73 8 rfl).trans ((fr2 Fm64 8 rfl).trans ((fr2 Fm52 8 rfl).trans ((fr2 Fm43 8 rfl).trans ((fr2 Fm32 8 rfl).trans (fr2 Fm23 8 rfl))))))), (show (m73.2 9) = (m11.2 9) from ((fr2 Fm73 9 rfl).trans ((fr2 Fm64 9 rfl).trans ((fr2 Fm52 9 rfl).trans ((fr2 Fm43 9 rfl).trans ((fr2 Fm32 9 rfl).trans (fr2 Fm23 9 rfl))))))), (show (m73.1 217) = ((m.1 217) + 1) from ((fr1 Fm73 217 rfl).trans ((fr1 Fm64 217 rfl).trans ((fr1 Fm52 217 rfl).trans ((fr1 Fm43 217 rfl).trans ((fr1 Fm32 217 rfl).trans (fr1 Fm23 217 rfl)))))))]; first | (exact pKP) | (exfalso; omega)), rfl⟩
def fF_rd_extract : List Nat := [205, 206, 207, 208, 209, 210, 211, 212]
def fA_rd_extract : List Nat := [26, 27]
def Q_rd_extract (m : mR) (c : Nat → Option am_C) (N : Nat) (s : Int) (i : Int) : ag_Re af_T → Prop := fun R => (∃ (M : mR), KTy M ∧ fr fF_rd_extract fA_rd_extract m M ∧ R = (.inl (none), (khp M c, N), 0, 0)) ∨ (∃ (x : Nat) (M : mR), (x = 0) ∧ (KTy M) ∧ (fr fF_rd_extract fA_rd_extract m M) ∧ R = (.inr x, (khp M c, N), 1, 6))
set_option maxHeartbeats 3000000 in
theorem c_rd_extract (w : wX) (m : mR) (c : Nat → Option am_C) (N D : Nat) (hD : 9 ≤ D) (hT : KTy m) (s : Int) (i : Int) (qs : R32 s) (qi : R32 i) (pKP : KPp (m.1 203) (m.2 8) (m.2 9) (m.1 214) (m.1 215) (m.1 216) (m.1 217) (m.1 221) (m.1 223) (m.1 219)) (p1 : 0 ≤ s ∧ s ≤ 15) (p2 : 0 ≤ i ∧ i ≤ 6) : TC w D 90 [.ref 178, .int (i32 s), .int (i32 i)] (khp m c, N) (Q_rd_extract m c N s i) := by
  obtain ⟨D, rfl⟩ : ∃ k, D = k + 1 := ⟨D - 1, by omega⟩
  obtain ⟨qsa, qsb⟩ := id qs
  obtain ⟨qia, qib⟩ := id qi
  have f206 : (-1) ≤ m.1 206 ∧ m.1 206 ≤ 65535 := hT.1 206
  have f207 : 0 ≤ m.1 207 ∧ m.1 207 ≤ 4001 := hT.1 207
  have f203 : 0 ≤ m.1 203 ∧ m.1 203 ≤ 90 := hT.1 203
  have f213 : 0 ≤ m.1 213 ∧ m.1 213 ≤ 1 := hT.1 213
  have f214 : 0 ≤ m.1 214 ∧ m.1 214 ≤ 12 := hT.1 214
  have f215 : 0 ≤ m.1 215 ∧ m.1 215 ≤ 12 := hT.1 215
  have f216 : 0 ≤ m.1 216 ∧ m.1 216 ≤ 16 := hT.1 216
  have f217 : 0 ≤ m.1 217 ∧ m.1 217 ≤ 8 := hT.1 217
  have f219 : 0 ≤ m.1 219 ∧ m.1 219 ≤ 8 := hT.1 219
  have f221 : 0 ≤ m.1 221 ∧ m.1 221 ≤ 16 := hT.1 221
  have f223 : 0 ≤ m.1 223 ∧ m.1 223 ≤ 16 := hT.1 223
  refine Tc_of rfl ?_
  rw [show (khp m c, N) = (khp (mO m [] []) c, N) from by rw [mO_nil m]]
  show TT w D pm_90 (0, [(0, .ref 178), (1, .int (i32 s)), (2, .int (i32 i))], [], (khp (mO m [] []) c, N), 0, 0) (Q_rd_extract m c N s i)
  refine T_ld 1 (.int (i32 i)) rfl (fun _ => rfl) ?_
  refine T_ld 3 (.int (i32 6)) rfl (fun _ => rfl) ?_
  refine T_icmp 21 6 rfl rfl rfl (r32 (by omega) (by omega)) ⟨by decide, by decide⟩ (fun (h1 : i < 6) => ?_) (fun (h1 : ¬ (i < 6)) => ?_)
  · skip
    refine T_ld 22 (.ref 178) rfl (fun _ => rfl) ?_
    refine K_gf 25 (.ref 6) rfl rfl kd_178 rfl rfl rfl ?_
    refine T_callx 28 50 [.ref 6] [] rfl (fun _ => rfl) rfl rfl (c_tx_advance w (mO m [] []) c N D (by omega) hT ) (fun rr2 k3 => ?_)
    rcases k3 with ⟨m4, Tm4, Fm4, h5, rfl⟩ | ⟨xx8, m6, hx7, Tm6, Fm6, rfl⟩
    rotate_left
    · skip
      refine Or.inr ⟨_, _, _, _, rfl, ?_⟩
      exact Or.inr ⟨xx8, (mO m6 [] []), (hx7), Tm6, (fr_m (fr_s Fm6 (fr_m fr_0 rfl rfl) rfl rfl) rfl rfl), rfl⟩
    refine Or.inl ⟨_, _, _, _, rfl, ?_⟩
    refine K_nb (st' := []) rfl ?_
    have g9 : (-1) ≤ m4.1 206 ∧ m4.1 206 ≤ 65535 := Tm4.1 206
    have g10 : 0 ≤ m4.1 207 ∧ m4.1 207 ≤ 4001 := Tm4.1 207
    replace h5 : (m.1 213) = 0 := h5
    refine T_ld 29 (.ref 178) rfl (fun _ => rfl) ?_
    refine K_gf 32 (.ref 31) rfl rfl kd_178 rfl rfl rfl ?_
    refine K_gf 35 (.ref 33) rfl rfl kd_31 rfl rfl rfl ?_
    refine T_ld 36 (.int (i32 s)) rfl (fun _ => rfl) ?_
    refine T_ld 38 (.int (i32 6)) rfl (fun _ => rfl) ?_
    refine T_imul 39 rfl rfl ?_
    refine T_ld 40 (.int (i32 i)) rfl (fun _ => rfl) ?_
    refine T_iadd 41 rfl rfl ?_
    refine T_ld 42 (.ref 178) rfl (fun _ => rfl) ?_
    refine K_gf 45 (.ref 6) rfl rfl kd_178 rfl rfl rfl ?_
    refine T_ld 48 (.int (i32 301)) rfl (fun _ => rfl) ?_
    refine T_callx 51 83 [.ref 6, .int (i32 301)] [.int (i32 ((s * 6) + i)), .ref 33] rfl (fun _ => rfl) rfl rfl (c_tx_known w (mO m4 [] []) c N D (by omega) Tm4 301 ⟨by decide, by decide⟩) (fun rr11 k12 => ?_)
    rcases k12 with ⟨m13, kn, Tm13, Fm13, g14, h15, h16, h17, rfl⟩ | ⟨xx20, m18, hx19, Tm18, Fm18, rfl⟩
    rotate_left
    · skip
      refine Or.inr ⟨_, _, _, _, rfl, ?_⟩
      exact Or.inr ⟨xx20, (mO m18 [] []), (hx19), Tm18, (fr_m (fr_s Fm18 (fr_m (fr_s Fm4 (fr_m fr_0 rfl rfl) rfl rfl) rfl rfl) rfl rfl) rfl rfl), rfl⟩
    refine Or.inl ⟨_, _, _, _, rfl, ?_⟩
    refine K_nb (st' := [.int (i32 kn), .int (i32 ((s * 6) + i)), .ref 33]) rfl ?_
    obtain ⟨g14a, g14b⟩ := g14
    have g21 : (-1) ≤ m13.1 206 ∧ m13.1 206 ≤ 65535 := Tm13.1 206
    have g22 : 0 ≤ m13.1 207 ∧ m13.1 207 ≤ 4001 := Tm13.1 207
    replace h15 : KNo (m4.1 203) (m4.2 8) (m4.2 9) (301 : Int) kn := h15
    rewrite [(show (m4.1 203) = (m.1 203) from (fr1 Fm4 203 rfl)), (show (m4.2 8) = (m.2 8) from (fr2 Fm4 8 rfl)), (show (m4.2 9) = (m.2 9) from (fr2 Fm4 9 rfl))] at h15
    have hKn := h15
    replace h16 : (m4.1 213) = 0 := h16
    rewrite [(show (m4.1 213) = (m.1 213) from (fr1 Fm4 213 rfl))] at h16
    replace h17 : (m4.1 206) = 256 := h17
    have hkn := KNo_w pKP hKn
    have G23 : ∀ j, 0 ≤ (upI (m.2 27) ((s * 6) + i) kn) j ∧ (upI (m.2 27) ((s * 6) + i) kn) j ≤ 11 := upI_rg (hT.2.1 27) ⟨by omega, by omega⟩
    refine K_iast (a' := [(27, upI (m.2 27) ((s * 6) + i) kn)]) 52 27 (m.2 27) rfl rfl rfl (by omega) (show ((s * 6) + i) < (96 : Int) by omega) (show (m13.2 27) = (m.2 27) from ((fr2 Fm13 27 rfl).trans (fr2 Fm4 27 rfl))) rfl ?_
    refine T_ld 53 (.ref 178) rfl (fun _ => rfl) ?_
    refine K_gf 56 (.ref 31) rfl rfl kd_178 rfl rfl rfl ?_
    refine K_gf 59 (.ref 32) rfl rfl kd_31 rfl rfl rfl ?_
    refine T_ld 60 (.int (i32 s)) rfl (fun _ => rfl) ?_
    refine T_ld 61 (.int (i32 i)) rfl (fun _ => rfl) ?_
    refine T_ld 62 (.int (i32 1)) rfl (fun _ => rfl) ?_
    refine T_iadd 63 rfl rfl ?_
    have G24 : ∀ j, 0 ≤ (upI (m.2 26) s (i + 1)) j ∧ (upI (m.2 26) s (i + 1)) j ≤ 6 := upI_rg (hT.2.1 26) ⟨by omega, by omega⟩
    refine K_iast (a' := [(26, upI (m.2 26) s (i + 1)), (27, upI (m.2 27) ((s * 6) + i) kn)]) 64 26 (m.2 26) rfl rfl rfl (by omega) (show s < (16 : Int) by omega) (show (m13.2 26) = (m.2 26) from ((fr2 Fm13 26 rfl).trans (fr2 Fm4 26 rfl))) rfl ?_
    refine T_ld 65 (.ref 178) rfl (fun _ => rfl) ?_
    refine K_gf 68 (.ref 6) rfl rfl kd_178 rfl rfl rfl ?_
    refine T_ld 70 (.int (i32 59)) rfl (fun _ => rfl) ?_
    refine T_callx 73 78 [.ref 6, .int (i32 59)] [] rfl (fun _ => rfl) rfl rfl (c_tx_expect w (mO m13 [] [(26, upI (m.2 26) s (i + 1)), (27, upI (m.2 27) ((s * 6) + i) kn)]) c N D (by omega) (KTy_mO Tm13 rfl rfl trivial ⟨G24, G23, trivial⟩) 59 ⟨by decide, by decide⟩) (fun rr25 k26 => ?_)
    rcases k26 with ⟨m27, Tm27, Fm27, h28, h29, rfl⟩ | ⟨xx32, m30, hx31, Tm30, Fm30, rfl⟩
    rotate_left
    · skip
      refine Or.inr ⟨_, _, _, _, rfl, ?_⟩
      exact Or.inr ⟨xx32, (mO m30 [] []), (hx31), Tm30, (fr_m (fr_s Fm30 (fr_m (fr_s Fm13 (fr_m (fr_s Fm4 (fr_m fr_0 rfl rfl) rfl rfl) rfl rfl) rfl rfl) rfl rfl) rfl rfl) rfl rfl), rfl⟩
    refine Or.inl ⟨_, _, _, _, rfl, ?_⟩
    refine K_nb (st' := []) rfl ?_
    have g33 : (-1) ≤ m27.1 206 ∧ m27.1 206 ≤ 65535 := Tm27.1 206
    have g34 : 0 ≤ m27.1 207 ∧ m27.1 207 ≤ 4001 := Tm27.1 207
    replace h28 : (m13.1 206) = (59 : Int) := h28
    replace h29 : (m13.1 213) = 0 := h29
    rewrite [(show (m13.1 213) = (m.1 213) from ((fr1 Fm13 213 rfl).trans (fr1 Fm4 213 rfl)))] at h29
    refine T_ret rfl (fun _ => rfl) ?_
    exact Or.inl ⟨(mO m27 [] []), Tm27, (fr_m (fr_s Fm27 (fr_m (fr_s Fm13 (fr_m (fr_s Fm4 (fr_m fr_0 rfl rfl) rfl rfl) rfl rfl) rfl rfl) rfl rfl) rfl rfl) rfl rfl), rfl⟩
  · skip
    refine T_ld 7 (.ref 178) rfl (fun _ => rfl) ?_
    refine K_gf 10 (.ref 6) rfl rfl kd_178 rfl rfl rfl ?_
    refine T_ld 11 (.int (i32 4)) rfl (fun _ => rfl) ?_
    refine T_ld 12 (.ref 178) rfl (fun _ => rfl) ?_
    refine K_gf 15 (.ref 6) rfl rfl kd_178 rfl rfl rfl ?_
    refine K_gf 18 (.int (i32 (m.1 207))) rfl rfl kd_6 rfl rfl rfl ?_
    refine T_callx 21 51 [.ref 6, .int (i32 4), .int (i32 (m.1 207))] [] rfl (fun _ => rfl) rfl rfl (c_tx_fail w (mO m [] []) c N D (by omega) hT 4 (m.1 207) ⟨by decide, by decide⟩ (r32 (by omega) (by omega)) (show 1 ≤ (4 : Int) ∧ (4 : Int) ≤ 8 by omega) (show 0 ≤ (m.1 207) ∧ (m.1 207) ≤ 4001 by omega)) (fun rr35 k36 => ?_)
    rcases k36 with ⟨m37, Tm37, Fm37, h38, rfl⟩ | ⟨xx41, m39, hx40, Tm39, Fm39, rfl⟩
    rotate_left
    · skip
      refine Or.inr ⟨_, _, _, _, rfl, ?_⟩
      exact Or.inr ⟨xx41, (mO m39 [] []), (hx40), Tm39, (fr_m (fr_s Fm39 (fr_m fr_0 rfl rfl) rfl rfl) rfl rfl), rfl⟩
    exact h38.elim
def fF_rd_fittingNumber : List Nat := [205, 206, 207, 208, 209, 210, 211, 212]
def fA_rd_fittingNumber : List Nat := []
def Q_rd_fittingNumber (m : mR) (c : Nat → Option am_C) (N : Nat) (u : Int) : ag_Re af_T → Prop := fun R => (∃ (M : mR) (r : Int), KTy M ∧ fr fF_rd_fittingNumber fA_rd_fittingNumber m M ∧ ((-9223372036854775808) ≤ r ∧ r ≤ 9223372036854775807) ∧ R = (.inl (some (.long (i64 r))), (khp M c, N), 0, 0)) ∨ (∃ (x : Nat) (M : mR), (x = 0) ∧ (KTy M) ∧ (fr fF_rd_fittingNumber fA_rd_fittingNumber m M) ∧ R = (.inr x, (khp M c, N), 1, 6))
set_option maxHeartbeats 3000000 in
theorem c_rd_fittingNumber (w : wX) (m : mR) (c : Nat → Option am_C) (N D : Nat) (hD : 9 ≤ D) (hT : KTy m) (u : Int) (qu : R32 u) : TC w D 115 [.ref 178, .int (i32 u)] (khp m c, N) (Q_rd_fittingNumber m c N u) := by
  obtain ⟨D, rfl⟩ : ∃ k, D = k + 1 := ⟨D - 1, by omega⟩
  obtain ⟨qua, qub⟩ := id qu
  have f206 : (-1) ≤ m.1 206 ∧ m.1 206 ≤ 65535 := hT.1 206
  have f207 : 0 ≤ m.1 207 ∧ m.1 207 ≤ 4001 := hT.1 207
  have f208 : (-9223372036854775808) ≤ m.1 208 ∧ m.1 208 ≤ 9223372036854775807 := hT.1 208
  have f213 : 0 ≤ m.1 213 ∧ m.1 213 ≤ 1 := hT.1 213
  refine Tc_of rfl ?_
  rw [show (khp m c, N) = (khp (mO m [] []) c, N) from by rw [mO_nil m]]
  show TT w D pm_115 (0, [(0, .ref 178), (1, .int (i32 u))], [], (khp (mO m [] []) c, N), 0, 0) (Q_rd_fittingNumber m c N u)
  refine T_ld 1 (.ref 178) rfl (fun _ => rfl) ?_
  refine K_gf 4 (.ref 6) rfl rfl kd_178 rfl rfl rfl ?_
  refine K_gf 7 (.long (i64 (m.1 208))) rfl rfl kd_6 rfl rfl rfl ?_
  refine T_sto 8 [(2, .long (i64 (m.1 208))), (0, .ref 178), (1, .int (i32 u))] rfl (fun _ => rfl) ?_
  refine T_ld 9 (.ref 178) rfl (fun _ => rfl) ?_
  refine K_gf 12 (.ref 6) rfl rfl kd_178 rfl rfl rfl ?_
  refine K_gf 15 (.int (i32 (m.1 207))) rfl rfl kd_6 rfl rfl rfl ?_
  refine T_sto 17 [(4, .int (i32 (m.1 207))), (2, .long (i64 (m.1 208))), (0, .ref 178), (1, .int (i32 u))] rfl (fun _ => rfl) ?_
  refine T_ld 18 (.ref 178) rfl (fun _ => rfl) ?_
  refine K_gf 21 (.ref 6) rfl rfl kd_178 rfl rfl rfl ?_
  refine T_ld 24 (.int (i32 257)) rfl (fun _ => rfl) ?_
  refine T_callx 27 78 [.ref 6, .int (i32 257)] [] rfl (fun _ => rfl) rfl rfl (c_tx_expect w (mO m [] []) c N D (by omega) hT 257 ⟨by decide, by decide⟩) (fun rr1 k2 => ?_)
  rcases k2 with ⟨m3, Tm3, Fm3, h4, h5, rfl⟩ | ⟨xx8, m6, hx7, Tm6, Fm6, rfl⟩
  rotate_left
  · skip
    refine Or.inr ⟨_, _, _, _, rfl, ?_⟩
    exact Or.inr ⟨xx8, (mO m6 [] []), (hx7), Tm6, (fr_m (fr_s Fm6 (fr_m fr_0 rfl rfl) rfl rfl) rfl rfl), rfl⟩
  refine Or.inl ⟨_, _, _, _, rfl, ?_⟩
  refine K_nb (st' := []) rfl ?_
  have g9 : (-1) ≤ m3.1 206 ∧ m3.1 206 ≤ 65535 := Tm3.1 206
  have g10 : 0 ≤ m3.1 207 ∧ m3.1 207 ≤ 4001 := Tm3.1 207
  have g11 : (-9223372036854775808) ≤ m3.1 208 ∧ m3.1 208 ≤ 9223372036854775807 := Tm3.1 208
  replace h4 : (m.1 206) = (257 : Int) := h4
  replace h5 : (m.1 213) = 0 := h5
  refine T_ld 28 (.long (i64 (m.1 208))) rfl (fun _ => rfl) ?_
  refine T_ld 29 (.int (i32 u)) rfl (fun _ => rfl) ?_
  refine T_callx 32 116 [.int (i32 u)] [.long (i64 (m.1 208))] rfl (fun _ => rfl) rfl rfl (c_pw_ones w (mO m3 [] []) c N D (by omega) Tm3 u (r32 (by omega) (by omega))) (fun rr12 k13 => ?_)
  obtain ⟨x14, g15, rfl⟩ := k13
  refine Or.inl ⟨_, _, _, _, rfl, ?_⟩
  refine T_ns (st' := [.long (i64 x14), .long (i64 (m.1 208))]) rfl ?_
  obtain ⟨g15a, g15b⟩ := g15
  refine T_ld 35 (.long (i64 (-1))) rfl (fun _ => rfl) ?_
  refine T_lhv 36 _ rfl (fun _ => rfl) (fun z16 h17 => ?_)
  obtain ⟨h17a, h17b⟩ := h17
  refine T_lhv 37 _ rfl (fun _ => rfl) (fun z18 h19 => ?_)
  obtain ⟨h19a, h19b⟩ := h19
  refine T_ld 38 (.long (i64 0)) rfl (fun _ => rfl) ?_
  refine T_lcmp 39 rfl rfl (r64 (by omega) (by omega)) ⟨by decide, by decide⟩ (fun z20 h21 => ?_)
  obtain ⟨h21a, h21b, h21c, h21d, h21e⟩ := h21
  refine T_if 53 42 rfl rfl rfl (r32 (by omega) (by omega)) (fun (h22 : z20 = 0) => ?_) (fun (h22 : ¬ (z20 = 0)) => ?_)
  · skip
    have hl23 : z18 = 0 := by omega
    refine T_ld 54 (.long (i64 (m.1 208))) rfl (fun _ => rfl) ?_
    refine T_ret rfl (fun _ => rfl) ?_
    exact Or.inl ⟨(mO m3 [] []), (m.1 208), Tm3, (fr_m (fr_s Fm3 (fr_m fr_0 rfl rfl) rfl rfl) rfl rfl), ⟨by omega, by omega⟩, rfl⟩
  · skip
    have hl24 : z18 ≠ 0 := by omega
    refine T_ld 43 (.ref 178) rfl (fun _ => rfl) ?_
    refine K_gf 46 (.ref 6) rfl rfl kd_178 rfl rfl rfl ?_
    refine T_ld 48 (.int (i32 7)) rfl (fun _ => rfl) ?_
    refine T_ld 50 (.int (i32 (m.1 207))) rfl (fun _ => rfl) ?_
    refine T_callx 53 51 [.ref 6, .int (i32 7), .int (i32 (m.1 207))] [] rfl (fun _ => rfl) rfl rfl (c_tx_fail w (mO m3 [] []) c N D (by omega) Tm3 7 (m.1 207) ⟨by decide, by decide⟩ (r32 (by omega) (by omega)) (show 1 ≤ (7 : Int) ∧ (7 : Int) ≤ 8 by omega) (show 0 ≤ (m.1 207) ∧ (m.1 207) ≤ 4001 by omega)) (fun rr25 k26 => ?_)
    rcases k26 with ⟨m27, Tm27, Fm27, h28, rfl⟩ | ⟨xx31, m29, hx30, Tm29, Fm29, rfl⟩
    rotate_left
    · skip
      refine Or.inr ⟨_, _, _, _, rfl, ?_⟩
      exact Or.inr ⟨xx31, (mO m29 [] []), (hx30), Tm29, (fr_m (fr_s Fm29 (fr_m (fr_s Fm3 (fr_m fr_0 rfl rfl) rfl rfl) rfl rfl) rfl rfl) rfl rfl), rfl⟩
    exact h28.elim
def fF_rd_goal : List Nat := [203, 205, 206, 207, 208, 209, 210, 211, 212, 221]
def fA_rd_goal : List Nat := [6, 7, 8, 9, 26, 29, 30, 35, 36]
def Q_rd_goal (m : mR) (c : Nat → Option am_C) (N : Nat) : ag_Re af_T → Prop := fun R => (∃ (M : mR) (r : Int), KTy M ∧ fr fF_rd_goal fA_rd_goal m M ∧ (0 ≤ r ∧ r ≤ 17) ∧ (KPp (M.1 203) (M.2 8) (M.2 9) (m.1 214) (m.1 215) (m.1 216) (m.1 217) (M.1 221) (m.1 223) (m.1 219)) ∧ (SSp (m.1 222) (M.2 36) (M.1 221)) ∧ ((m.1 221) ≤ (M.1 221)) ∧ R = (.inl (some (.int (i32 r))), (khp M c, N), 0, 0)) ∨ (∃ (x : Nat) (M : mR), (x = 0) ∧ (KTy M) ∧ (fr fF_rd_goal fA_rd_goal m M) ∧ R = (.inr x, (khp M c, N), 1, 6))
set_option maxHeartbeats 3000000 in
theorem c_rd_goal (w : wX) (m : mR) (c : Nat → Option am_C) (N D : Nat) (hD : 9 ≤ D) (hT : KTy m) (pKP : KPp (m.1 203) (m.2 8) (m.2 9) (m.1 214) (m.1 215) (m.1 216) (m.1 217) (m.1 221) (m.1 223) (m.1 219)) (hSS : SSp (m.1 222) (m.2 36) (m.1 221)) : TC w D 117 [.ref 178] (khp m c, N) (Q_rd_goal m c N) := by
  obtain ⟨D, rfl⟩ : ∃ k, D = k + 1 := ⟨D - 1, by omega⟩
  have f203 : 0 ≤ m.1 203 ∧ m.1 203 ≤ 90 := hT.1 203
  have f206 : (-1) ≤ m.1 206 ∧ m.1 206 ≤ 65535 := hT.1 206
  have f207 : 0 ≤ m.1 207 ∧ m.1 207 ≤ 4001 := hT.1 207
  have f221 : 0 ≤ m.1 221 ∧ m.1 221 ≤ 16 := hT.1 221
  have f213 : 0 ≤ m.1 213 ∧ m.1 213 ≤ 1 := hT.1 213
  have f214 : 0 ≤ m.1 214 ∧ m.1 214 ≤ 12 := hT.1 214
  have f215 : 0 ≤ m.1 215 ∧ m.1 215 ≤ 12 := hT.1 215
  have f216 : 0 ≤ m.1 216 ∧ m.1 216 ≤ 16 := hT.1 216
  have f217 : 0 ≤ m.1 217 ∧ m.1 217 ≤ 8 := hT.1 217
  have f219 : 0 ≤ m.1 219 ∧ m.1 219 ≤ 8 := hT.1 219
  have f222 : 0 ≤ m.1 222 ∧ m.1 222 ≤ 16 := hT.1 222
  have f223 : 0 ≤ m.1 223 ∧ m.1 223 ≤ 16 := hT.1 223
  refine Tc_of rfl ?_
  rw [show (khp m c, N) = (khp (mO m [] []) c, N) from by rw [mO_nil m]]
  show TT w D pm_117 (0, [(0, .ref 178)], [], (khp (mO m [] []) c, N), 0, 0) (Q_rd_goal m c N)
  refine T_ld 1 (.ref 178) rfl (fun _ => rfl) ?_
  refine K_gf 4 (.ref 6) rfl rfl kd_178 rfl rfl rfl ?_
  refine K_gf 7 (.int (i32 (m.1 206))) rfl rfl kd_6 rfl rfl rfl ?_
  refine T_ld 10 (.int (i32 256)) rfl (fun _ => rfl) ?_
  refine T_icmp 24 13 rfl rfl rfl (r32 (by omega) (by omega)) ⟨by decide, by decide⟩ (fun (h1 : (m.1 206) ≠ 256) => ?_) (fun (h1 : ¬ ((m.1 206) ≠ 256)) => ?_)
  · skip
    refine T_ld 25 (.ref 178) rfl (fun _ => rfl) ?_
    refine K_gf 28 (.ref 6) rfl rfl kd_178 rfl rfl rfl ?_
    refine T_ld 31 (.int (i32 304)) rfl (fun _ => rfl) ?_
    refine T_callx 34 83 [.ref 6, .int (i32 304)] [] rfl (fun _ => rfl) rfl rfl (c_tx_known w (mO m [] []) c N D (by omega) hT 304 ⟨by decide, by decide⟩) (fun rr2 k3 => ?_)
    rcases k3 with ⟨m4, kn, Tm4, Fm4, g5, h6, h7, h8, rfl⟩ | ⟨xx11, m9, hx10, Tm9, Fm9, rfl⟩
    rotate_left
    · skip
      refine Or.inr ⟨_, _, _, _, rfl, ?_⟩
      exact Or.inr ⟨xx11, (mO m9 [] []), (hx10), Tm9, (fr_m (fr_s Fm9 (fr_m fr_0 rfl rfl) rfl rfl) rfl rfl), rfl⟩
    refine Or.inl ⟨_, _, _, _, rfl, ?_⟩
    refine K_nb (st' := [.int (i32 kn)]) rfl ?_
    obtain ⟨g5a, g5b⟩ := g5
    have g12 : (-1) ≤ m4.1 206 ∧ m4.1 206 ≤ 65535 := Tm4.1 206
    have g13 : 0 ≤ m4.1 207 ∧ m4.1 207 ≤ 4001 := Tm4.1 207
    replace h6 : KNo (m.1 203) (m.2 8) (m.2 9) (304 : Int) kn := h6
    have hKn := h6
    replace h7 : (m.1 213) = 0 := h7
    replace h8 : (m.1 206) = 256 := h8
    refine T_ret rfl (fun _ => rfl) ?_
    exact Or.inl ⟨(mO m4 [] []), kn, Tm4, (fr_m (fr_s Fm4 (fr_m fr_0 rfl rfl) rfl rfl) rfl rfl), ⟨by omega, by omega⟩, (show KPp (m4.1 203) (m4.2 8) (m4.2 9) (m.1 214) (m.1 215) (m.1 216) (m.1 217) (m4.1 221) (m.1 223) (m.1 219) by rewrite [(show (m4.1 203) = (m.1 203) from (fr1 Fm4 203 rfl)), (show (m4.2 8) = (m.2 8) from (fr2 Fm4 8 rfl)), (show (m4.2 9) = (m.2 9) from (fr2 Fm4 9 rfl)), (show (m4.1 221) = (m.1 221) from (fr1 Fm4 221 rfl))]; first | (exact pKP) | (exfalso; omega)), (show SSp (m.1 222) (m4.2 36) (m4.1 221) by rewrite [(show (m4.2 36) = (m.2 36) from (fr2 Fm4 36 rfl)), (show (m4.1 221) = (m.1 221) from (fr1 Fm4 221 rfl))]; first | (exact hSS) | (exfalso; omega)), (show (m.1 221) ≤ (m4.1 221) by rewrite [(show (m4.1 221) = (m.1 221) from (fr1 Fm4 221 rfl))]; omega), rfl⟩
  · skip
    refine T_ld 14 (.ref 178) rfl (fun _ => rfl) ?_
    refine K_gf 17 (.ref 6) rfl rfl kd_178 rfl rfl rfl ?_
    refine T_callx 20 77 [.ref 6] [] rfl (fun _ => rfl) rfl rfl (c_tx_find w (mO m [] []) c N D (by omega) hT ) (fun rr14 k15 => ?_)
    obtain ⟨fi, g16, h17, rfl⟩ := k15
    refine Or.inl ⟨_, _, _, _, rfl, ?_⟩
    refine T_ns (st' := [.int (i32 fi)]) rfl ?_
    obtain ⟨g16a, g16b⟩ := g16
    replace h17 : fi < (m.1 203) := h17
    refine T_ld 21 (.int (i32 (-1))) rfl (fun _ => rfl) ?_
    refine T_icmp 35 24 rfl rfl rfl (r32 (by omega) (by omega)) ⟨by decide, by decide⟩ (fun (h18 : fi = (-1)) => ?_) (fun (h18 : ¬ (fi = (-1))) => ?_)
    · skip
      refine T_ld 36 (.ref 178) rfl (fun _ => rfl) ?_
      refine K_gf 39 (.ref 6) rfl rfl kd_178 rfl rfl rfl ?_
      refine K_gf 42 (.int (i32 (m.1 207))) rfl rfl kd_6 rfl rfl rfl ?_
      refine T_sto 43 [(1, .int (i32 (m.1 207))), (0, .ref 178)] rfl (fun _ => rfl) ?_
      refine T_ld 44 (.ref 178) rfl (fun _ => rfl) ?_
      refine K_gf 47 (.ref 6) rfl rfl kd_178 rfl rfl rfl ?_
      refine T_ld 50 (.int (i32 304)) rfl (fun _ => rfl) ?_
      refine T_ld 51 (.ref 178) rfl (fun _ => rfl) ?_
      refine K_gf 54 (.ref 31) rfl rfl kd_178 rfl rfl rfl ?_
      refine K_gf 57 (.int (i32 (m.1 221))) rfl rfl kd_31 rfl rfl rfl ?_
      refine T_ld 59 (.int (i32 16)) rfl (fun _ => rfl) ?_
      refine T_callx 62 75 [.ref 6, .int (i32 304), .int (i32 (m.1 221)), .int (i32 16)] [] rfl (fun _ => rfl) rfl rfl (c_tx_makeNew w (mO m [] []) c N D (by omega) hT 304 (m.1 221) 16 ⟨by decide, by decide⟩ (r32 (by omega) (by omega)) ⟨by decide, by decide⟩ (show 0 ≤ (304 : Int) ∧ (304 : Int) ≤ 310 by omega) (show 0 ≤ (m.1 221) ∧ (16 : Int) ≤ 16 by omega)) (fun rr19 k20 => ?_)
      rcases k20 with ⟨m21, Tm21, Fm21, h22, h23, h24, rfl⟩ | ⟨xx27, m25, hx26, Tm25, Fm25, rfl⟩
      rotate_left
      · skip
        refine Or.inr ⟨_, _, _, _, rfl, ?_⟩
        exact Or.inr ⟨xx27, (mO m25 [] []), (hx26), Tm25, (fr_m (fr_s Fm25 (fr_m fr_0 rfl rfl) rfl rfl) rfl rfl), rfl⟩
      refine Or.inl ⟨_, _, _, _, rfl, ?_⟩
      refine K_nb (st' := []) rfl ?_
      have g28 : 0 ≤ m21.1 203 ∧ m21.1 203 ≤ 90 := Tm21.1 203
      have g29 : (-1) ≤ m21.1 206 ∧ m21.1 206 ≤ 65535 := Tm21.1 206
      have g30 : 0 ≤ m21.1 207 ∧ m21.1 207 ≤ 4001 := Tm21.1 207
      replace h22 : (m.1 221) < (16 : Int) := h22
      replace h23 : KMk (m.1 203) (m21.1 203) (m.2 8) (m21.2 8) (m.2 9) (m21.2 9) (304 : Int) (m.1 221) := h23
      have hMk := h23
      replace h24 : (m.1 213) = 0 := h24
      refine T_ld 63 (.ref 178) rfl (fun _ => rfl) ?_
      refine K_gf 66 (.ref 31) rfl rfl kd_178 rfl rfl rfl ?_
      refine T_ld 67 (.int (i32 (m.1 207))) rfl (fun _ => rfl) ?_
      refine T_callx 70 88 [.ref 31, .int (i32 (m.1 207))] [] rfl (fun _ => rfl) rfl rfl (c_ss_add w (mO m21 [] []) c N D (by omega) Tm21 (m.1 207) (r32 (by omega) (by omega)) (show (m21.1 221) ≤ 15 by rewrite [(show (m21.1 221) = (m.1 221) from (fr1 Fm21 221 rfl))]; omega) (show 0 ≤ (m.1 207) ∧ (m.1 207) ≤ 4001 by omega)) (fun rr31 k32 => ?_)
      obtain ⟨m33, sa, Tm33, Fm33, g34, h35, h36, h37, rfl⟩ := k32
      refine Or.inl ⟨_, _, _, _, rfl, ?_⟩
      refine K_nb (st' := [.int (i32 sa)]) rfl ?_
      obtain ⟨g34a, g34b⟩ := g34
      have g38 : 0 ≤ m33.1 221 ∧ m33.1 221 ≤ 16 := Tm33.1 221
      replace h35 : sa = (m21.1 221) := h35
      rewrite [(show (m21.1 221) = (m.1 221) from (fr1 Fm21 221 rfl))] at h35
      replace h36 : (m33.1 221) = (m21.1 221) + 1 := h36
      rewrite [(show (m21.1 221) = (m.1 221) from (fr1 Fm21 221 rfl))] at h36
      replace h37 : (m33.2 36) = upI (m21.2 36) (m21.1 221) (-1) := h37
      rewrite [(show (m21.2 36) = (m.2 36) from (fr2 Fm21 36 rfl)), (show (m21.1 221) = (m.1 221) from (fr1 Fm21 221 rfl))] at h37
      have hSa := h37
      have pKP : KPp (m21.1 203) (m21.2 8) (m21.2 9) (m.1 214) (m.1 215) (m.1 216) (m.1 217) (m33.1 221) (m.1 223) (m.1 219) := KPp_mk pKP hMk (by omega) (by omega) (by omega) (by omega) (by omega) (by omega) (by omega) (by omega)
      have hSS : SSp (m.1 222) (m33.2 36) (m33.1 221) := SS_add hSS (by omega) hSa (by omega)
      refine T_ret rfl (fun _ => rfl) ?_
      exact Or.inl ⟨(mO m33 [] []), sa, Tm33, (fr_m (fr_s Fm33 (fr_m (fr_s Fm21 (fr_m fr_0 rfl rfl) rfl rfl) rfl rfl) rfl rfl) rfl rfl), ⟨by omega, by omega⟩, (show KPp (m33.1 203) (m33.2 8) (m33.2 9) (m.1 214) (m.1 215) (m.1 216) (m.1 217) (m33.1 221) (m.1 223) (m.1 219) by rewrite [(show (m33.1 203) = (m21.1 203) from (fr1 Fm33 203 rfl)), (show (m33.2 8) = (m21.2 8) from (fr2 Fm33 8 rfl)), (show (m33.2 9) = (m21.2 9) from (fr2 Fm33 9 rfl))]; first | (exact pKP) | (exfalso; omega)), (show SSp (m.1 222) (m33.2 36) (m33.1 221) by first | (exact hSS) | (exfalso; omega)), (show (m.1 221) ≤ (m33.1 221) by omega), rfl⟩
    · skip
      refine T_ld 25 (.ref 178) rfl (fun _ => rfl) ?_
      refine K_gf 28 (.ref 6) rfl rfl kd_178 rfl rfl rfl ?_
      refine T_ld 31 (.int (i32 304)) rfl (fun _ => rfl) ?_
      refine T_callx 34 83 [.ref 6, .int (i32 304)] [] rfl (fun _ => rfl) rfl rfl (c_tx_known w (mO m [] []) c N D (by omega) hT 304 ⟨by decide, by decide⟩) (fun rr39 k40 => ?_)
      rcases k40 with ⟨m41, kn, Tm41, Fm41, g42, h43, h44, h45, rfl⟩ | ⟨xx48, m46, hx47, Tm46, Fm46, rfl⟩
      rotate_left
      · skip
        refine Or.inr ⟨_, _, _, _, rfl, ?_⟩
        exact Or.inr ⟨xx48, (mO m46 [] []), (hx47), Tm46, (fr_m (fr_s Fm46 (fr_m fr_0 rfl rfl) rfl rfl) rfl rfl), rfl⟩
      refine Or.inl ⟨_, _, _, _, rfl, ?_⟩
      refine K_nb (st' := [.int (i32 kn)]) rfl ?_
      obtain ⟨g42a, g42b⟩ := g42
      have g49 : (-1) ≤ m41.1 206 ∧ m41.1 206 ≤ 65535 := Tm41.1 206
      have g50 : 0 ≤ m41.1 207 ∧ m41.1 207 ≤ 4001 := Tm41.1 207
      replace h43 : KNo (m.1 203) (m.2 8) (m.2 9) (304 : Int) kn := h43
      have hKn := h43
      replace h44 : (m.1 213) = 0 := h44
      replace h45 : (m.1 206) = 256 := h45
      refine T_ret rfl (fun _ => rfl) ?_
      exact Or.inl ⟨(mO m41 [] []), kn, Tm41, (fr_m (fr_s Fm41 (fr_m fr_0 rfl rfl) rfl rfl) rfl rfl), ⟨by omega, by omega⟩, (show KPp (m41.1 203) (m41.2 8) (m41.2 9) (m.1 214) (m.1 215) (m.1 216) (m.1 217) (m41.1 221) (m.1 223) (m.1 219) by rewrite [(show (m41.1 203) = (m.1 203) from (fr1 Fm41 203 rfl)), (show (m41.2 8) = (m.2 8) from (fr2 Fm41 8 rfl)), (show (m41.2 9) = (m.2 9) from (fr2 Fm41 9 rfl)), (show (m41.1 221) = (m.1 221) from (fr1 Fm41 221 rfl))]; first | (exact pKP) | (exfalso; omega)), (show SSp (m.1 222) (m41.2 36) (m41.1 221) by rewrite [(show (m41.2 36) = (m.2 36) from (fr2 Fm41 36 rfl)), (show (m41.1 221) = (m.1 221) from (fr1 Fm41 221 rfl))]; first | (exact hSS) | (exfalso; omega)), (show (m.1 221) ≤ (m41.1 221) by rewrite [(show (m41.1 221) = (m.1 221) from (fr1 Fm41 221 rfl))]; omega), rfl⟩
def fF_rd_selectCase : List Nat := [203, 205, 206, 207, 208, 209, 210, 211, 212, 221]
def fA_rd_selectCase : List Nat := [6, 7, 8, 9, 26, 29, 30, 31, 32, 33, 35, 36]
def Q_rd_selectCase (m : mR) (c : Nat → Option am_C) (N : Nat) (s : Int) (i : Int) (u : Int) : ag_Re af_T → Prop := fun R => (∃ (M : mR), KTy M ∧ fr fF_rd_selectCase fA_rd_selectCase m M ∧ (KPp (M.1 203) (M.2 8) (M.2 9) (m.1 214) (m.1 215) (m.1 216) (m.1 217) (M.1 221) (m.1 223) (m.1 219)) ∧ (SSp (m.1 222) (M.2 36) (M.1 221)) ∧ ((m.1 221) ≤ (M.1 221)) ∧ R = (.inl (none), (khp M c, N), 0, 0)) ∨ (∃ (x : Nat) (M : mR), (x = 0) ∧ (KTy M) ∧ (fr fF_rd_selectCase fA_rd_selectCase m M) ∧ R = (.inr x, (khp M c, N), 1, 6))
set_option maxHeartbeats 3000000 in
theorem c_rd_selectCase (w : wX) (m : mR) (c : Nat → Option am_C) (N D : Nat) (hD : 10 ≤ D) (hT : KTy m) (s : Int) (i : Int) (u : Int) (qs : R32 s) (qi : R32 i) (qu : R32 u) (pKP : KPp (m.1 203) (m.2 8) (m.2 9) (m.1 214) (m.1 215) (m.1 216) (m.1 217) (m.1 221) (m.1 223) (m.1 219)) (hSS : SSp (m.1 222) (m.2 36) (m.1 221)) (p2 : 0 ≤ s ∧ s ≤ 15) (p3 : 0 ≤ i ∧ i ≤ 8) : TC w D 114 [.ref 178, .int (i32 s), .int (i32 i), .int (i32 u)] (khp m c, N) (Q_rd_selectCase m c N s i u) := by
  obtain ⟨D, rfl⟩ : ∃ k, D = k + 1 := ⟨D - 1, by omega⟩
  obtain ⟨qsa, qsb⟩ := id qs
  obtain ⟨qia, qib⟩ := id qi
  obtain ⟨qua, qub⟩ := id qu
  have f203 : 0 ≤ m.1 203 ∧ m.1 203 ≤ 90 := hT.1 203
  have f206 : (-1) ≤ m.1 206 ∧ m.1 206 ≤ 65535 := hT.1 206
  have f207 : 0 ≤ m.1 207 ∧ m.1 207 ≤ 4001 := hT.1 207
  have f221 : 0 ≤ m.1 221 ∧ m.1 221 ≤ 16 := hT.1 221
  have f213 : 0 ≤ m.1 213 ∧ m.1 213 ≤ 1 := hT.1 213
  have f214 : 0 ≤ m.1 214 ∧ m.1 214 ≤ 12 := hT.1 214
  have f215 : 0 ≤ m.1 215 ∧ m.1 215 ≤ 12 := hT.1 215
  have f216 : 0 ≤ m.1 216 ∧ m.1 216 ≤ 16 := hT.1 216
  have f217 : 0 ≤ m.1 217 ∧ m.1 217 ≤ 8 := hT.1 217
  have f219 : 0 ≤ m.1 219 ∧ m.1 219 ≤ 8 := hT.1 219
  have f222 : 0 ≤ m.1 222 ∧ m.1 222 ≤ 16 := hT.1 222
  have f223 : 0 ≤ m.1 223 ∧ m.1 223 ≤ 16 := hT.1 223
  refine Tc_of rfl ?_
  rw [show (khp m c, N) = (khp (mO m [] []) c, N) from by rw [mO_nil m]]
  show TT w D pm_114 (0, [(0, .ref 178), (1, .int (i32 s)), (2, .int (i32 i)), (3, .int (i32 u))], [], (khp (mO m [] []) c, N), 0, 0) (Q_rd_selectCase m c N s i u)
  refine T_ld 1 (.int (i32 i)) rfl (fun _ => rfl) ?_
  refine T_ld 3 (.int (i32 8)) rfl (fun _ => rfl) ?_
  refine T_icmp 21 6 rfl rfl rfl (r32 (by omega) (by omega)) ⟨by decide, by decide⟩ (fun (h1 : i < 8) => ?_) (fun (h1 : ¬ (i < 8)) => ?_)
  · skip
    refine T_ld 22 (.int (i32 s)) rfl (fun _ => rfl) ?_
    refine T_ld 24 (.int (i32 8)) rfl (fun _ => rfl) ?_
    refine T_imul 25 rfl rfl ?_
    refine T_ld 26 (.int (i32 i)) rfl (fun _ => rfl) ?_
    refine T_iadd 27 rfl rfl ?_
    refine T_sto 29 [(4, .int (i32 ((s * 8) + i))), (0, .ref 178), (1, .int (i32 s)), (2, .int (i32 i)), (3, .int (i32 u))] rfl (fun _ => rfl) ?_
    refine T_ld 30 (.ref 178) rfl (fun _ => rfl) ?_
    refine K_gf 33 (.ref 31) rfl rfl kd_178 rfl rfl rfl ?_
    refine K_gf 36 (.ref 37) rfl rfl kd_31 rfl rfl rfl ?_
    refine T_ld 38 (.int (i32 ((s * 8) + i))) rfl (fun _ => rfl) ?_
    refine T_ld 39 (.ref 178) rfl (fun _ => rfl) ?_
    refine T_ld 40 (.int (i32 u)) rfl (fun _ => rfl) ?_
    refine T_callx 43 115 [.ref 178, .int (i32 u)] [.int (i32 ((s * 8) + i)), .ref 37] rfl (fun _ => rfl) rfl rfl (c_rd_fittingNumber w (mO m [] []) c N D (by omega) hT u (r32 (by omega) (by omega))) (fun rr2 k3 => ?_)
    rcases k3 with ⟨m4, x5, Tm4, Fm4, g6, rfl⟩ | ⟨xx9, m7, hx8, Tm7, Fm7, rfl⟩
    rotate_left
    · skip
      refine Or.inr ⟨_, _, _, _, rfl, ?_⟩
      exact Or.inr ⟨xx9, (mO m7 [] []), (hx8), Tm7, (fr_m (fr_s Fm7 (fr_m fr_0 rfl rfl) rfl rfl) rfl rfl), rfl⟩
    refine Or.inl ⟨_, _, _, _, rfl, ?_⟩
    refine K_nb (st' := [.long (i64 x5), .int (i32 ((s * 8) + i)), .ref 37]) rfl ?_
    obtain ⟨g6a, g6b⟩ := g6
    have g10 : (-1) ≤ m4.1 206 ∧ m4.1 206 ≤ 65535 := Tm4.1 206
    have g11 : 0 ≤ m4.1 207 ∧ m4.1 207 ≤ 4001 := Tm4.1 207
    have G12 : ∀ j, (-9223372036854775808) ≤ (upI (m.2 31) ((s * 8) + i) x5) j ∧ (upI (m.2 31) ((s * 8) + i) x5) j ≤ 9223372036854775807 := upI_rg (hT.2.1 31) ⟨by omega, by omega⟩
    refine K_last (a' := [(31, upI (m.2 31) ((s * 8) + i) x5)]) 44 31 (m.2 31) rfl rfl rfl (by omega) (show ((s * 8) + i) < (128 : Int) by omega) (show (m4.2 31) = (m.2 31) from (fr2 Fm4 31 rfl)) rfl ?_
    refine T_ld 45 (.ref 178) rfl (fun _ => rfl) ?_
    refine K_gf 48 (.ref 31) rfl rfl kd_178 rfl rfl rfl ?_
    refine K_gf 51 (.ref 38) rfl rfl kd_31 rfl rfl rfl ?_
    refine T_ld 53 (.int (i32 ((s * 8) + i))) rfl (fun _ => rfl) ?_
    refine T_ld 54 (.int (i32 u)) rfl (fun _ => rfl) ?_
    refine T_callx 57 116 [.int (i32 u)] [.int (i32 ((s * 8) + i)), .ref 38] rfl (fun _ => rfl) rfl rfl (c_pw_ones w (mO m4 [] [(31, upI (m.2 31) ((s * 8) + i) x5)]) c N D (by omega) (KTy_mO Tm4 rfl rfl trivial ⟨G12, trivial⟩) u (r32 (by omega) (by omega))) (fun rr13 k14 => ?_)
    obtain ⟨x15, g16, rfl⟩ := k14
    refine Or.inl ⟨_, _, _, _, rfl, ?_⟩
    refine T_ns (st' := [.long (i64 x15), .int (i32 ((s * 8) + i)), .ref 38]) rfl ?_
    obtain ⟨g16a, g16b⟩ := g16
    have G17 : ∀ j, (-9223372036854775808) ≤ (upI (m.2 32) ((s * 8) + i) x15) j ∧ (upI (m.2 32) ((s * 8) + i) x15) j ≤ 9223372036854775807 := upI_rg (hT.2.1 32) ⟨by omega, by omega⟩
    refine K_last (a' := [(31, upI (m.2 31) ((s * 8) + i) x5), (32, upI (m.2 32) ((s * 8) + i) x15)]) 58 32 (m.2 32) rfl rfl rfl (by omega) (show ((s * 8) + i) < (128 : Int) by omega) (show (m4.2 32) = (m.2 32) from (fr2 Fm4 32 rfl)) rfl ?_
    refine T_ld 59 (.ref 178) rfl (fun _ => rfl) ?_
    refine K_gf 62 (.ref 6) rfl rfl kd_178 rfl rfl rfl ?_
    refine K_gf 65 (.int (i32 (m4.1 206))) rfl rfl kd_6 rfl rfl rfl ?_
    refine T_ld 67 (.int (i32 38)) rfl (fun _ => rfl) ?_
    refine T_icmp 92 70 rfl rfl rfl (r32 (by omega) (by omega)) ⟨by decide, by decide⟩ (fun (h18 : (m4.1 206) ≠ 38) => ?_) (fun (h18 : ¬ ((m4.1 206) ≠ 38)) => ?_)
    · skip
      refine T_ld 93 (.ref 178) rfl (fun _ => rfl) ?_
      refine K_gf 96 (.ref 6) rfl rfl kd_178 rfl rfl rfl ?_
      refine T_ld 98 (.int (i32 58)) rfl (fun _ => rfl) ?_
      refine T_callx 101 78 [.ref 6, .int (i32 58)] [] rfl (fun _ => rfl) rfl rfl (c_tx_expect w (mO m4 [] [(31, upI (m.2 31) ((s * 8) + i) x5), (32, upI (m.2 32) ((s * 8) + i) x15)]) c N D (by omega) (KTy_mO Tm4 rfl rfl trivial ⟨G12, G17, trivial⟩) 58 ⟨by decide, by decide⟩) (fun rr19 k20 => ?_)
      rcases k20 with ⟨m21, Tm21, Fm21, h22, h23, rfl⟩ | ⟨xx26, m24, hx25, Tm24, Fm24, rfl⟩
      rotate_left
      · skip
        refine Or.inr ⟨_, _, _, _, rfl, ?_⟩
        exact Or.inr ⟨xx26, (mO m24 [] []), (hx25), Tm24, (fr_m (fr_s Fm24 (fr_m (fr_s Fm4 (fr_m fr_0 rfl rfl) rfl rfl) rfl rfl) rfl rfl) rfl rfl), rfl⟩
      refine Or.inl ⟨_, _, _, _, rfl, ?_⟩
      refine K_nb (st' := []) rfl ?_
      have g27 : (-1) ≤ m21.1 206 ∧ m21.1 206 ≤ 65535 := Tm21.1 206
      have g28 : 0 ≤ m21.1 207 ∧ m21.1 207 ≤ 4001 := Tm21.1 207
      replace h22 : (m4.1 206) = (58 : Int) := h22
      replace h23 : (m4.1 213) = 0 := h23
      rewrite [(show (m4.1 213) = (m.1 213) from (fr1 Fm4 213 rfl))] at h23
      refine T_ld 102 (.ref 178) rfl (fun _ => rfl) ?_
      refine K_gf 105 (.ref 31) rfl rfl kd_178 rfl rfl rfl ?_
      refine K_gf 108 (.ref 39) rfl rfl kd_31 rfl rfl rfl ?_
      refine T_ld 110 (.int (i32 ((s * 8) + i))) rfl (fun _ => rfl) ?_
      refine T_ld 111 (.ref 178) rfl (fun _ => rfl) ?_
      refine T_callx 114 117 [.ref 178] [.int (i32 ((s * 8) + i)), .ref 39] rfl (fun _ => rfl) rfl rfl (c_rd_goal w (mO m21 [] []) c N D (by omega) Tm21 (show KPp (m21.1 203) (m21.2 8) (m21.2 9) (m21.1 214) (m21.1 215) (m21.1 216) (m21.1 217) (m21.1 221) (m21.1 223) (m21.1 219) by rewrite [(show (m21.1 203) = (m.1 203) from ((fr1 Fm21 203 rfl).trans (fr1 Fm4 203 rfl))), (show (m21.2 8) = (m.2 8) from ((fr2 Fm21 8 rfl).trans (fr2 Fm4 8 rfl))), (show (m21.2 9) = (m.2 9) from ((fr2 Fm21 9 rfl).trans (fr2 Fm4 9 rfl))), (show (m21.1 214) = (m.1 214) from ((fr1 Fm21 214 rfl).trans (fr1 Fm4 214 rfl))), (show (m21.1 215) = (m.1 215) from ((fr1 Fm21 215 rfl).trans (fr1 Fm4 215 rfl))), (show (m21.1 216) = (m.1 216) from ((fr1 Fm21 216 rfl).trans (fr1 Fm4 216 rfl))), (show (m21.1 217) = (m.1 217) from ((fr1 Fm21 217 rfl).trans (fr1 Fm4 217 rfl))), (show (m21.1 221) = (m.1 221) from ((fr1 Fm21 221 rfl).trans (fr1 Fm4 221 rfl))), (show (m21.1 223) = (m.1 223) from ((fr1 Fm21 223 rfl).trans (fr1 Fm4 223 rfl))), (show (m21.1 219) = (m.1 219) from ((fr1 Fm21 219 rfl).trans (fr1 Fm4 219 rfl)))]; exact pKP) (show SSp (m21.1 222) (m21.2 36) (m21.1 221) by rewrite [(show (m21.1 222) = (m.1 222) from ((fr1 Fm21 222 rfl).trans (fr1 Fm4 222 rfl))), (show (m21.2 36) = (m.2 36) from ((fr2 Fm21 36 rfl).trans (fr2 Fm4 36 rfl))), (show (m21.1 221) = (m.1 221) from ((fr1 Fm21 221 rfl).trans (fr1 Fm4 221 rfl)))]; exact hSS)) (fun rr29 k30 => ?_)
      rcases k30 with ⟨m31, go, Tm31, Fm31, g32, h33, h34, h35, rfl⟩ | ⟨xx38, m36, hx37, Tm36, Fm36, rfl⟩
      rotate_left
      · skip
        refine Or.inr ⟨_, _, _, _, rfl, ?_⟩
        exact Or.inr ⟨xx38, (mO m36 [] []), (hx37), Tm36, (fr_m (fr_s Fm36 (fr_m (fr_s Fm21 (fr_m (fr_s Fm4 (fr_m fr_0 rfl rfl) rfl rfl) rfl rfl) rfl rfl) rfl rfl) rfl rfl) rfl rfl), rfl⟩
      refine Or.inl ⟨_, _, _, _, rfl, ?_⟩
      refine K_nb (st' := [.int (i32 go), .int (i32 ((s * 8) + i)), .ref 39]) rfl ?_
      obtain ⟨g32a, g32b⟩ := g32
      have g39 : 0 ≤ m31.1 203 ∧ m31.1 203 ≤ 90 := Tm31.1 203
      have g40 : (-1) ≤ m31.1 206 ∧ m31.1 206 ≤ 65535 := Tm31.1 206
      have g41 : 0 ≤ m31.1 207 ∧ m31.1 207 ≤ 4001 := Tm31.1 207
      have g42 : 0 ≤ m31.1 221 ∧ m31.1 221 ≤ 16 := Tm31.1 221
      replace h33 : KPp (m31.1 203) (m31.2 8) (m31.2 9) (m21.1 214) (m21.1 215) (m21.1 216) (m21.1 217) (m31.1 221) (m21.1 223) (m21.1 219) := h33
      rewrite [(show (m21.1 214) = (m.1 214) from ((fr1 Fm21 214 rfl).trans (fr1 Fm4 214 rfl))), (show (m21.1 215) = (m.1 215) from ((fr1 Fm21 215 rfl).trans (fr1 Fm4 215 rfl))), (show (m21.1 216) = (m.1 216) from ((fr1 Fm21 216 rfl).trans (fr1 Fm4 216 rfl))), (show (m21.1 217) = (m.1 217) from ((fr1 Fm21 217 rfl).trans (fr1 Fm4 217 rfl))), (show (m21.1 223) = (m.1 223) from ((fr1 Fm21 223 rfl).trans (fr1 Fm4 223 rfl))), (show (m21.1 219) = (m.1 219) from ((fr1 Fm21 219 rfl).trans (fr1 Fm4 219 rfl)))] at h33
      have pKP := h33
      replace h34 : SSp (m21.1 222) (m31.2 36) (m31.1 221) := h34
      rewrite [(show (m21.1 222) = (m.1 222) from ((fr1 Fm21 222 rfl).trans (fr1 Fm4 222 rfl)))] at h34
      have hSS := h34
      replace h35 : (m21.1 221) ≤ (m31.1 221) := h35
      rewrite [(show (m21.1 221) = (m.1 221) from ((fr1 Fm21 221 rfl).trans (fr1 Fm4 221 rfl)))] at h35
      have G43 : ∀ j, 0 ≤ (upI (m.2 33) ((s * 8) + i) go) j ∧ (upI (m.2 33) ((s * 8) + i) go) j ≤ 17 := upI_rg (hT.2.1 33) ⟨by omega, by omega⟩
      refine K_iast (a' := [(33, upI (m.2 33) ((s * 8) + i) go)]) 115 33 (m.2 33) rfl rfl rfl (by omega) (show ((s * 8) + i) < (128 : Int) by omega) (show (m31.2 33) = (m.2 33) from ((fr2 Fm31 33 rfl).trans ((fr2 Fm21 33 rfl).trans (fr2 Fm4 33 rfl)))) rfl ?_
      refine T_ld 116 (.ref 178) rfl (fun _ => rfl) ?_
      refine K_gf 119 (.ref 31) rfl rfl kd_178 rfl rfl rfl ?_
      refine K_gf 122 (.ref 36) rfl rfl kd_31 rfl rfl rfl ?_
      refine T_ld 123 (.int (i32 s)) rfl (fun _ => rfl) ?_
      refine T_ld 124 (.int (i32 i)) rfl (fun _ => rfl) ?_
      refine T_ld 125 (.int (i32 1)) rfl (fun _ => rfl) ?_
      refine T_iadd 126 rfl rfl ?_
      have G44 : ∀ j, 0 ≤ (upI (m31.2 30) s (i + 1)) j ∧ (upI (m31.2 30) s (i + 1)) j ≤ 8 := upI_rg (Tm31.2.1 30) ⟨by omega, by omega⟩
      refine K_iast (a' := [(30, upI (m31.2 30) s (i + 1)), (33, upI (m.2 33) ((s * 8) + i) go)]) 127 30 (m31.2 30) rfl rfl rfl (by omega) (show s < (16 : Int) by omega) rfl rfl ?_
      refine T_ld 128 (.ref 178) rfl (fun _ => rfl) ?_
      refine K_gf 131 (.ref 6) rfl rfl kd_178 rfl rfl rfl ?_
      refine T_ld 133 (.int (i32 59)) rfl (fun _ => rfl) ?_
      refine T_callx 136 78 [.ref 6, .int (i32 59)] [] rfl (fun _ => rfl) rfl rfl (c_tx_expect w (mO m31 [] [(30, upI (m31.2 30) s (i + 1)), (33, upI (m.2 33) ((s * 8) + i) go)]) c N D (by omega) (KTy_mO Tm31 rfl rfl trivial ⟨G44, G43, trivial⟩) 59 ⟨by decide, by decide⟩) (fun rr45 k46 => ?_)
      rcases k46 with ⟨m47, Tm47, Fm47, h48, h49, rfl⟩ | ⟨xx52, m50, hx51, Tm50, Fm50, rfl⟩
      rotate_left
      · skip
        refine Or.inr ⟨_, _, _, _, rfl, ?_⟩
        exact Or.inr ⟨xx52, (mO m50 [] []), (hx51), Tm50, (fr_m (fr_s Fm50 (fr_m (fr_s Fm31 (fr_m (fr_s Fm21 (fr_m (fr_s Fm4 (fr_m fr_0 rfl rfl) rfl rfl) rfl rfl) rfl rfl) rfl rfl) rfl rfl) rfl rfl) rfl rfl) rfl rfl), rfl⟩
      refine Or.inl ⟨_, _, _, _, rfl, ?_⟩
      refine K_nb (st' := []) rfl ?_
      have g53 : (-1) ≤ m47.1 206 ∧ m47.1 206 ≤ 65535 := Tm47.1 206
      have g54 : 0 ≤ m47.1 207 ∧ m47.1 207 ≤ 4001 := Tm47.1 207
      replace h48 : (m31.1 206) = (59 : Int) := h48
      replace h49 : (m31.1 213) = 0 := h49
      rewrite [(show (m31.1 213) = (m.1 213) from ((fr1 Fm31 213 rfl).trans ((fr1 Fm21 213 rfl).trans (fr1 Fm4 213 rfl))))] at h49
      refine T_ret rfl (fun _ => rfl) ?_
      exact Or.inl ⟨(mO m47 [] []), Tm47, (fr_m (fr_s Fm47 (fr_m (fr_s Fm31 (fr_m (fr_s Fm21 (fr_m (fr_s Fm4 (fr_m fr_0 rfl rfl) rfl rfl) rfl rfl) rfl rfl) rfl rfl) rfl rfl) rfl rfl) rfl rfl) rfl rfl), (show KPp (m47.1 203) (m47.2 8) (m47.2 9) (m.1 214) (m.1 215) (m.1 216) (m.1 217) (m47.1 221) (m.1 223) (m.1 219) by rewrite [(show (m47.1 203) = (m31.1 203) from (fr1 Fm47 203 rfl)), (show (m47.2 8) = (m31.2 8) from (fr2 Fm47 8 rfl)), (show (m47.2 9) = (m31.2 9) from (fr2 Fm47 9 rfl)), (show (m47.1 221) = (m31.1 221) from (fr1 Fm47 221 rfl))]; first | (exact pKP) | (exfalso; omega)), (show SSp (m.1 222) (m47.2 36) (m47.1 221) by rewrite [(show (m47.2 36) = (m31.2 36) from (fr2 Fm47 36 rfl)), (show (m47.1 221) = (m31.1 221) from (fr1 Fm47 221 rfl))]; first | (exact hSS) | (exfalso; omega)), (show (m.1 221) ≤ (m47.1 221) by rewrite [(show (m47.1 221) = (m31.1 221) from (fr1 Fm47 221 rfl))]; omega), rfl⟩
    · skip
      refine T_ld 71 (.ref 178) rfl (fun _ => rfl) ?_
      refine K_gf 74 (.ref 6) rfl rfl kd_178 rfl rfl rfl ?_
      refine T_callx 77 50 [.ref 6] [] rfl (fun _ => rfl) rfl rfl (c_tx_advance w (mO m4 [] [(31, upI (m.2 31) ((s * 8) + i) x5), (32, upI (m.2 32) ((s * 8) + i) x15)]) c N D (by omega) (KTy_mO Tm4 rfl rfl trivial ⟨G12, G17, trivial⟩) ) (fun rr55 k56 => ?_)
      rcases k56 with ⟨m57, Tm57, Fm57, h58, rfl⟩ | ⟨xx61, m59, hx60, Tm59, Fm59, rfl⟩
      rotate_left
      · skip
        refine Or.inr ⟨_, _, _, _, rfl, ?_⟩
        exact Or.inr ⟨xx61, (mO m59 [] []), (hx60), Tm59, (fr_m (fr_s Fm59 (fr_m (fr_s Fm4 (fr_m fr_0 rfl rfl) rfl rfl) rfl rfl) rfl rfl) rfl rfl), rfl⟩
      refine Or.inl ⟨_, _, _, _, rfl, ?_⟩
      refine K_nb (st' := []) rfl ?_
      have g62 : (-1) ≤ m57.1 206 ∧ m57.1 206 ≤ 65535 := Tm57.1 206
      have g63 : 0 ≤ m57.1 207 ∧ m57.1 207 ≤ 4001 := Tm57.1 207
      replace h58 : (m4.1 213) = 0 := h58
      rewrite [(show (m4.1 213) = (m.1 213) from (fr1 Fm4 213 rfl))] at h58
      refine T_ld 78 (.ref 178) rfl (fun _ => rfl) ?_
      refine K_gf 81 (.ref 31) rfl rfl kd_178 rfl rfl rfl ?_
      refine K_gf 84 (.ref 38) rfl rfl kd_31 rfl rfl rfl ?_
      refine T_ld 86 (.int (i32 ((s * 8) + i))) rfl (fun _ => rfl) ?_
      refine T_ld 87 (.ref 178) rfl (fun _ => rfl) ?_
      refine T_ld 88 (.int (i32 u)) rfl (fun _ => rfl) ?_
      refine T_callx 91 115 [.ref 178, .int (i32 u)] [.int (i32 ((s * 8) + i)), .ref 38] rfl (fun _ => rfl) rfl rfl (c_rd_fittingNumber w (mO m57 [] []) c N D (by omega) Tm57 u (r32 (by omega) (by omega))) (fun rr64 k65 => ?_)
      rcases k65 with ⟨m66, x67, Tm66, Fm66, g68, rfl⟩ | ⟨xx71, m69, hx70, Tm69, Fm69, rfl⟩
      rotate_left
      · skip
        refine Or.inr ⟨_, _, _, _, rfl, ?_⟩
        exact Or.inr ⟨xx71, (mO m69 [] []), (hx70), Tm69, (fr_m (fr_s Fm69 (fr_m (fr_s Fm57 (fr_m (fr_s Fm4 (fr_m fr_0 rfl rfl) rfl rfl) rfl rfl) rfl rfl) rfl rfl) rfl rfl) rfl rfl), rfl⟩
      refine Or.inl ⟨_, _, _, _, rfl, ?_⟩
      refine K_nb (st' := [.long (i64 x67), .int (i32 ((s * 8) + i)), .ref 38]) rfl ?_
      obtain ⟨g68a, g68b⟩ := g68
      have g72 : (-1) ≤ m66.1 206 ∧ m66.1 206 ≤ 65535 := Tm66.1 206
      have g73 : 0 ≤ m66.1 207 ∧ m66.1 207 ≤ 4001 := Tm66.1 207
      have G74 : ∀ j, (-9223372036854775808) ≤ (upI (upI (m.2 32) ((s * 8) + i) x15) ((s * 8) + i) x67) j ∧ (upI (upI (m.2 32) ((s * 8) + i) x15) ((s * 8) + i) x67) j ≤ 9223372036854775807 := upI_rg G17 ⟨by omega, by omega⟩
      refine K_last (a' := [(32, upI (upI (m.2 32) ((s * 8) + i) x15) ((s * 8) + i) x67)]) 92 32 (upI (m.2 32) ((s * 8) + i) x15) rfl rfl rfl (by omega) (show ((s * 8) + i) < (128 : Int) by omega) (show (m66.2 32) = (upI (m.2 32) ((s * 8) + i) x15) from ((fr2 Fm66 32 rfl).trans (fr2 Fm57 32 rfl))) rfl ?_
      refine T_ld 93 (.ref 178) rfl (fun _ => rfl) ?_
      refine K_gf 96 (.ref 6) rfl rfl kd_178 rfl rfl rfl ?_
      refine T_ld 98 (.int (i32 58)) rfl (fun _ => rfl) ?_
      refine T_callx 101 78 [.ref 6, .int (i32 58)] [] rfl (fun _ => rfl) rfl rfl (c_tx_expect w (mO m66 [] [(32, upI (upI (m.2 32) ((s * 8) + i) x15) ((s * 8) + i) x67)]) c N D (by omega) (KTy_mO Tm66 rfl rfl trivial ⟨G74, trivial⟩) 58 ⟨by decide, by decide⟩) (fun rr75 k76 => ?_)
      rcases k76 with ⟨m77, Tm77, Fm77, h78, h79, rfl⟩ | ⟨xx82, m80, hx81, Tm80, Fm80, rfl⟩
      rotate_left
      · skip
        refine Or.inr ⟨_, _, _, _, rfl, ?_⟩
        exact Or.inr ⟨xx82, (mO m80 [] []), (hx81), Tm80, (fr_m (fr_s Fm80 (fr_m (fr_s Fm66 (fr_m (fr_s Fm57 (fr_m (fr_s Fm4 (fr_m fr_0 rfl rfl) rfl rfl) rfl rfl) rfl rfl) rfl rfl) rfl rfl) rfl rfl) rfl rfl) rfl rfl), rfl⟩
      refine Or.inl ⟨_, _, _, _, rfl, ?_⟩
      refine K_nb (st' := []) rfl ?_
      have g83 : (-1) ≤ m77.1 206 ∧ m77.1 206 ≤ 65535 := Tm77.1 206
      have g84 : 0 ≤ m77.1 207 ∧ m77.1 207 ≤ 4001 := Tm77.1 207
      replace h78 : (m66.1 206) = (58 : Int) := h78
      replace h79 : (m66.1 213) = 0 := h79
      rewrite [(show (m66.1 213) = (m.1 213) from ((fr1 Fm66 213 rfl).trans ((fr1 Fm57 213 rfl).trans (fr1 Fm4 213 rfl))))] at h79
      refine T_ld 102 (.ref 178) rfl (fun _ => rfl) ?_
      refine K_gf 105 (.ref 31) rfl rfl kd_178 rfl rfl rfl ?_
      refine K_gf 108 (.ref 39) rfl rfl kd_31 rfl rfl rfl ?_
      refine T_ld 110 (.int (i32 ((s * 8) + i))) rfl (fun _ => rfl) ?_
      refine T_ld 111 (.ref 178) rfl (fun _ => rfl) ?_
      refine T_callx 114 117 [.ref 178] [.int (i32 ((s * 8) + i)), .ref 39] rfl (fun _ => rfl) rfl rfl (c_rd_goal w (mO m77 [] []) c N D (by omega) Tm77 (show KPp (m77.1 203) (m77.2 8) (m77.2 9) (m77.1 214) (m77.1 215) (m77.1 216) (m77.1 217) (m77.1 221) (m77.1 223) (m77.1 219) by rewrite [(show (m77.1 203) = (m.1 203) from ((fr1 Fm77 203 rfl).trans ((fr1 Fm66 203 rfl).trans ((fr1 Fm57 203 rfl).trans (fr1 Fm4 203 rfl))))), (show (m77.2 8) = (m.2 8) from ((fr2 Fm77 8 rfl).trans ((fr2 Fm66 8 rfl).trans ((fr2 Fm57 8 rfl).trans (fr2 Fm4 8 rfl))))), (show (m77.2 9) = (m.2 9) from ((fr2 Fm77 9 rfl).trans ((fr2 Fm66 9 rfl).trans ((fr2 Fm57 9 rfl).trans (fr2 Fm4 9 rfl))))), (show (m77.1 214) = (m.1 214) from ((fr1 Fm77 214 rfl).trans ((fr1 Fm66 214 rfl).trans ((fr1 Fm57 214 rfl).trans (fr1 Fm4 214 rfl))))), (show (m77.1 215) = (m.1 215) from ((fr1 Fm77 215 rfl).trans ((fr1 Fm66 215 rfl).trans ((fr1 Fm57 215 rfl).trans (fr1 Fm4 215 rfl))))), (show (m77.1 216) = (m.1 216) from ((fr1 Fm77 216 rfl).trans ((fr1 Fm66 216 rfl).trans ((fr1 Fm57 216 rfl).trans (fr1 Fm4 216 rfl))))), (show (m77.1 217) = (m.1 217) from ((fr1 Fm77 217 rfl).trans ((fr1 Fm66 217 rfl).trans ((fr1 Fm57 217 rfl).trans (fr1 Fm4 217 rfl))))), (show (m77.1 221) = (m.1 221) from ((fr1 Fm77 221 rfl).trans ((fr1 Fm66 221 rfl).trans ((fr1 Fm57 221 rfl).trans (fr1 Fm4 221 rfl))))), (show (m77.1 223) = (m.1 223) from ((fr1 Fm77 223 rfl).trans ((fr1 Fm66 223 rfl).trans ((fr1 Fm57 223 rfl).trans (fr1 Fm4 223 rfl))))), (show (m77.1 219) = (m.1 219) from ((fr1 Fm77 219 rfl).trans ((fr1 Fm66 219 rfl).trans ((fr1 Fm57 219 rfl).trans (fr1 Fm4 219 rfl)))))]; exact pKP) (show SSp (m77.1 222) (m77.2 36) (m77.1 221) by rewrite [(show (m77.1 222) = (m.1 222) from ((fr1 Fm77 222 rfl).trans ((fr1 Fm66 222 rfl).trans ((fr1 Fm57 222 rfl).trans (fr1 Fm4 222 rfl))))), (show (m77.2 36) = (m.2 36) from ((fr2 Fm77 36 rfl).trans ((fr2 Fm66 36 rfl).trans ((fr2 Fm57 36 rfl).trans (fr2 Fm4 36 rfl))))), (show (m77.1 221) = (m.1 221) from ((fr1 Fm77 221 rfl).trans ((fr1 Fm66 221 rfl).trans ((fr1 Fm57 221 rfl).trans (fr1 Fm4 221 rfl)))))]; exact hSS)) (fun rr85 k86 => ?_)
      rcases k86 with ⟨m87, go, Tm87, Fm87, g88, h89, h90, h91, rfl⟩ | ⟨xx94, m92, hx93, Tm92, Fm92, rfl⟩
      rotate_left
      · skip
        refine Or.inr ⟨_, _, _, _, rfl, ?_⟩
        exact Or.inr ⟨xx94, (mO m92 [] []), (hx93), Tm92, (fr_m (fr_s Fm92 (fr_m (fr_s Fm77 (fr_m (fr_s Fm66 (fr_m (fr_s Fm57 (fr_m (fr_s Fm4 (fr_m fr_0 rfl rfl) rfl rfl) rfl rfl) rfl rfl) rfl rfl) rfl rfl) rfl rfl) rfl rfl) rfl rfl) rfl rfl) rfl rfl), rfl⟩
      refine Or.inl ⟨_, _, _, _, rfl, ?_⟩
      refine K_nb (st' := [.int (i32 go), .int (i32 ((s * 8) + i)), .ref 39]) rfl ?_
      obtain ⟨g88a, g88b⟩ := g88
      have g95 : 0 ≤ m87.1 203 ∧ m87.1 203 ≤ 90 := Tm87.1 203
      have g96 : (-1) ≤ m87.1 206 ∧ m87.1 206 ≤ 65535 := Tm87.1 206
      have g97 : 0 ≤ m87.1 207 ∧ m87.1 207 ≤ 4001 := Tm87.1 207
      have g98 : 0 ≤ m87.1 221 ∧ m87.1 221 ≤ 16 := Tm87.1 221
      replace h89 : KPp (m87.1 203) (m87.2 8) (m87.2 9) (m77.1 214) (m77.1 215) (m77.1 216) (m77.1 217) (m87.1 221) (m77.1 223) (m77.1 219) := h89
      rewrite [(show (m77.1 214) = (m.1 214) from ((fr1 Fm77 214 rfl).trans ((fr1 Fm66 214 rfl).trans ((fr1 Fm57 214 rfl).trans (fr1 Fm4 214 rfl))))), (show (m77.1 215) = (m.1 215) from ((fr1 Fm77 215 rfl).trans ((fr1 Fm66 215 rfl).trans ((fr1 Fm57 215 rfl).trans (fr1 Fm4 215 rfl))))), (show (m77.1 216) = (m.1 216) from ((fr1 Fm77 216 rfl).trans ((fr1 Fm66 216 rfl).trans ((fr1 Fm57 216 rfl).trans (fr1 Fm4 216 rfl))))), (show (m77.1 217) = (m.1 217) from ((fr1 Fm77 217 rfl).trans ((fr1 Fm66 217 rfl).trans ((fr1 Fm57 217 rfl).trans (fr1 Fm4 217 rfl))))), (show (m77.1 223) = (m.1 223) from ((fr1 Fm77 223 rfl).trans ((fr1 Fm66 223 rfl).trans ((fr1 Fm57 223 rfl).trans (fr1 Fm4 223 rfl))))), (show (m77.1 219) = (m.1 219) from ((fr1 Fm77 219 rfl).trans ((fr1 Fm66 219 rfl).trans ((fr1 Fm57 219 rfl).trans (fr1 Fm4 219 rfl)))))] at h89
      have pKP := h89
      replace h90 : SSp (m77.1 222) (m87.2 36) (m87.1 221) := h90
      rewrite [(show (m77.1 222) = (m.1 222) from ((fr1 Fm77 222 rfl).trans ((fr1 Fm66 222 rfl).trans ((fr1 Fm57 222 rfl).trans (fr1 Fm4 222 rfl)))))] at h90
      have hSS := h90
      replace h91 : (m77.1 221) ≤ (m87.1 221) := h91
      rewrite [(show (m77.1 221) = (m.1 221) from ((fr1 Fm77 221 rfl).trans ((fr1 Fm66 221 rfl).trans ((fr1 Fm57 221 rfl).trans (fr1 Fm4 221 rfl)))))] at h91
      have G99 : ∀ j, 0 ≤ (upI (m.2 33) ((s * 8) + i) go) j ∧ (upI (m.2 33) ((s * 8) + i) go) j ≤ 17 := upI_rg (hT.2.1 33) ⟨by omega, by omega⟩
      refine K_iast (a' := [(33, upI (m.2 33) ((s * 8) + i) go)]) 115 33 (m.2 33) rfl rfl rfl (by omega) (show ((s * 8) + i) < (128 : Int) by omega) (show (m87.2 33) = (m.2 33) from ((fr2 Fm87 33 rfl).trans ((fr2 Fm77 33 rfl).trans ((fr2 Fm66 33 rfl).trans ((fr2 Fm57 33 rfl).trans (fr2 Fm4 33 rfl)))))) rfl ?_
      refine T_ld 116 (.ref 178) rfl (fun _ => rfl) ?_
      refine K_gf 119 (.ref 31) rfl rfl kd_178 rfl rfl rfl ?_
      refine K_gf 122 (.ref 36) rfl rfl kd_31 rfl rfl rfl ?_
      refine T_ld 123 (.int (i32 s)) rfl (fun _ => rfl) ?_
      refine T_ld 124 (.int (i32 i)) rfl (fun _ => rfl) ?_
      refine T_ld 125 (.int (i32 1)) rfl (fun _ => rfl) ?_
      refine T_iadd 126 rfl rfl ?_
      have G100 : ∀ j, 0 ≤ (upI (m87.2 30) s (i + 1)) j ∧ (upI (m87.2 30) s (i + 1)) j ≤ 8 := upI_rg (Tm87.2.1 30) ⟨by omega, by omega⟩
      refine K_iast (a' := [(30, upI (m87.2 30) s (i + 1)), (33, upI (m.2 33) ((s * 8) + i) go)]) 127 30 (m87.2 30) rfl rfl rfl (by omega) (show s < (16 : Int) by omega) rfl rfl ?_
      refine T_ld 128 (.ref 178) rfl (fun _ => rfl) ?_
      refine K_gf 131 (.ref 6) rfl rfl kd_178 rfl rfl rfl ?_
      refine T_ld 133 (.int (i32 59)) rfl (fun _ => rfl) ?_
      refine T_callx 136 78 [.ref 6, .int (i32 59)] [] rfl (fun _ => rfl) rfl rfl (c_tx_expect w (mO m87 [] [(30, upI (m87.2 30) s (i + 1)), (33, upI (m.2 33) ((s * 8) + i) go)]) c N D (by omega) (KTy_mO Tm87 rfl rfl trivial ⟨G100, G99, trivial⟩) 59 ⟨by decide, by decide⟩) (fun rr101 k102 => ?_)
      rcases k102 with ⟨m103, Tm103, Fm103, h104, h105, rfl⟩ | ⟨xx108, m106, hx107, Tm106, Fm106, rfl⟩
      rotate_left
      · skip
        refine Or.inr ⟨_, _, _, _, rfl, ?_⟩
        exact Or.inr ⟨xx108, (mO m106 [] []), (hx107), Tm106, (fr_m (fr_s Fm106 (fr_m (fr_s Fm87 (fr_m (fr_s Fm77 (fr_m (fr_s Fm66 (fr_m (fr_s Fm57 (fr_m (fr_s Fm4 (fr_m fr_0 rfl rfl) rfl rfl) rfl rfl) rfl rfl) rfl rfl) rfl rfl) rfl rfl) rfl rfl) rfl rfl) rfl rfl) rfl rfl) rfl rfl) rfl rfl), rfl⟩
      refine Or.inl ⟨_, _, _, _, rfl, ?_⟩
      refine K_nb (st' := []) rfl ?_
      have g109 : (-1) ≤ m103.1 206 ∧ m103.1 206 ≤ 65535 := Tm103.1 206
      have g110 : 0 ≤ m103.1 207 ∧ m103.1 207 ≤ 4001 := Tm103.1 207
      replace h104 : (m87.1 206) = (59 : Int) := h104
      replace h105 : (m87.1 213) = 0 := h105
      rewrite [(show (m87.1 213) = (m.1 213) from ((fr1 Fm87 213 rfl).trans ((fr1 Fm77 213 rfl).trans ((fr1 Fm66 213 rfl).trans ((fr1 Fm57 213 rfl).trans (fr1 Fm4 213 rfl))))))] at h105
      refine T_ret rfl (fun _ => rfl) ?_
      exact Or.inl ⟨(mO m103 [] []), Tm103, (fr_m (fr_s Fm103 (fr_m (fr_s Fm87 (fr_m (fr_s Fm77 (fr_m (fr_s Fm66 (fr_m (fr_s Fm57 (fr_m (fr_s Fm4 (fr_m fr_0 rfl rfl) rfl rfl) rfl rfl) rfl rfl) rfl rfl) rfl rfl) rfl rfl) rfl rfl) rfl rfl) rfl rfl) rfl rfl) rfl rfl) rfl rfl), (show KPp (m103.1 203) (m103.2 8) (m103.2 9) (m.1 214) (m.1 215) (m.1 216) (m.1 217) (m103.1 221) (m.1 223) (m.1 219) by rewrite [(show (m103.1 203) = (m87.1 203) from (fr1 Fm103 203 rfl)), (show (m103.2 8) = (m87.2 8) from (fr2 Fm103 8 rfl)), (show (m103.2 9) = (m87.2 9) from (fr2 Fm103 9 rfl)), (show (m103.1 221) = (m87.1 221) from (fr1 Fm103 221 rfl))]; first | (exact pKP) | (exfalso; omega)), (show SSp (m.1 222) (m103.2 36) (m103.1 221) by rewrite [(show (m103.2 36) = (m87.2 36) from (fr2 Fm103 36 rfl)), (show (m103.1 221) = (m87.1 221) from (fr1 Fm103 221 rfl))]; first | (exact hSS) | (exfalso; omega)), (show (m.1 221) ≤ (m103.1 221) by rewrite [(show (m103.1 221) = (m87.1 221) from (fr1 Fm103 221 rfl))]; omega), rfl⟩
  · skip
    refine T_ld 7 (.ref 178) rfl (fun _ => rfl) ?_
    refine K_gf 10 (.ref 6) rfl rfl kd_178 rfl rfl rfl ?_
    refine T_ld 11 (.int (i32 4)) rfl (fun _ => rfl) ?_
    refine T_ld 12 (.ref 178) rfl (fun _ => rfl) ?_
    refine K_gf 15 (.ref 6) rfl rfl kd_178 rfl rfl rfl ?_
    refine K_gf 18 (.int (i32 (m.1 207))) rfl rfl kd_6 rfl rfl rfl ?_
    refine T_callx 21 51 [.ref 6, .int (i32 4), .int (i32 (m.1 207))] [] rfl (fun _ => rfl) rfl rfl (c_tx_fail w (mO m [] []) c N D (by omega) hT 4 (m.1 207) ⟨by decide, by decide⟩ (r32 (by omega) (by omega)) (show 1 ≤ (4 : Int) ∧ (4 : Int) ≤ 8 by omega) (show 0 ≤ (m.1 207) ∧ (m.1 207) ≤ 4001 by omega)) (fun rr111 k112 => ?_)
    rcases k112 with ⟨m113, Tm113, Fm113, h114, rfl⟩ | ⟨xx117, m115, hx116, Tm115, Fm115, rfl⟩
    rotate_left
    · skip
      refine Or.inr ⟨_, _, _, _, rfl, ?_⟩
      exact Or.inr ⟨xx117, (mO m115 [] []), (hx116), Tm115, (fr_m (fr_s Fm115 (fr_m fr_0 rfl rfl) rfl rfl) rfl rfl), rfl⟩
    exact h114.elim
def fF_rd_select : List Nat := [203, 205, 206, 207, 208, 209, 210, 211, 212, 213, 220, 221, 228, 229, 230, 231]
def fA_rd_select : List Nat := [6, 7, 8, 9, 18, 19, 20, 21, 22, 23, 24, 26, 28, 29, 30, 31, 32, 33, 34, 35, 36, 68, 69, 70]
def Q_rd_select (m : mR) (c : Nat → Option am_C) (N : Nat) (s : Int) : ag_Re af_T → Prop := fun R => (∃ (M : mR), KTy M ∧ fr fF_rd_select fA_rd_select m M ∧ (KPp (M.1 203) (M.2 8) (M.2 9) (m.1 214) (m.1 215) (m.1 216) (m.1 217) (M.1 221) (m.1 223) (m.1 219)) ∧ (SSp (m.1 222) (M.2 36) (M.1 221)) ∧ (NKp (M.2 18) (M.2 19)) ∧ R = (.inl (none), (khp M c, N), 0, 0)) ∨ (∃ (x : Nat) (M : mR), (x = 0) ∧ (KTy M) ∧ (fr fF_rd_select fA_rd_select m M) ∧ (NKp (M.2 18) (M.2 19)) ∧ R = (.inr x, (khp M c, N), 1, 6))
set_option maxHeartbeats 3000000 in
theorem c_rd_select (w : wX) (m : mR) (c : Nat → Option am_C) (N D : Nat) (hD : 11 ≤ D) (hT : KTy m) (s : Int) (qs : R32 s) (pKP : KPp (m.1 203) (m.2 8) (m.2 9) (m.1 214) (m.1 215) (m.1 216) (m.1 217) (m.1 221) (m.1 223) (m.1 219)) (hSS : SSp (m.1 222) (m.2 36) (m.1 221)) (hNK : NKp (m.2 18) (m.2 19)) (p3 : 0 ≤ s ∧ s ≤ 15) : TC w D 91 [.ref 178, .int (i32 s)] (khp m c, N) (Q_rd_select m c N s) := by
  obtain ⟨D, rfl⟩ : ∃ k, D = k + 1 := ⟨D - 1, by omega⟩
  obtain ⟨qsa, qsb⟩ := id qs
  have f203 : 0 ≤ m.1 203 ∧ m.1 203 ≤ 90 := hT.1 203
  have f206 : (-1) ≤ m.1 206 ∧ m.1 206 ≤ 65535 := hT.1 206
  have f213 : 0 ≤ m.1 213 ∧ m.1 213 ≤ 1 := hT.1 213
  have f220 : 0 ≤ m.1 220 ∧ m.1 220 ≤ 1090 := hT.1 220
  have f221 : 0 ≤ m.1 221 ∧ m.1 221 ≤ 16 := hT.1 221
  have f214 : 0 ≤ m.1 214 ∧ m.1 214 ≤ 12 := hT.1 214
  have f215 : 0 ≤ m.1 215 ∧ m.1 215 ≤ 12 := hT.1 215
  have f216 : 0 ≤ m.1 216 ∧ m.1 216 ≤ 16 := hT.1 216
  have f217 : 0 ≤ m.1 217 ∧ m.1 217 ≤ 8 := hT.1 217
  have f219 : 0 ≤ m.1 219 ∧ m.1 219 ≤ 8 := hT.1 219
  have f222 : 0 ≤ m.1 222 ∧ m.1 222 ≤ 16 := hT.1 222
  have f223 : 0 ≤ m.1 223 ∧ m.1 223 ≤ 16 := hT.1 223
  refine Tc_of rfl ?_
  rw [show (khp m c, N) = (khp (mO m [] []) c, N) from by rw [mO_nil m]]
  show TT w D pm_91 (0, [(0, .ref 178), (1, .int (i32 s))], [], (khp (mO m [] []) c, N), 0, 0) (Q_rd_select m c N s)
  refine T_ld 1 (.ref 178) rfl (fun _ => rfl) ?_
  refine K_gf 4 (.ref 6) rfl rfl kd_178 rfl rfl rfl ?_
  refine T_callx 7 50 [.ref 6] [] rfl (fun _ => rfl) rfl rfl (c_tx_advance w (mO m [] []) c N D (by omega) hT ) (fun rr1 k2 => ?_)
  rcases k2 with ⟨m3, Tm3, Fm3, h4, rfl⟩ | ⟨xx7, m5, hx6, Tm5, Fm5, rfl⟩
  rotate_left
  · skip
    refine Or.inr ⟨_, _, _, _, rfl, ?_⟩
    exact Or.inr ⟨xx7, (mO m5 [] []), (hx6), Tm5, (fr_m (fr_s Fm5 (fr_m fr_0 rfl rfl) rfl rfl) rfl rfl), (show NKp (m5.2 18) (m5.2 19) by rewrite [(show (m5.2 18) = (m.2 18) from (fr2 Fm5 18 rfl)), (show (m5.2 19) = (m.2 19) from (fr2 Fm5 19 rfl))]; exact hNK), rfl⟩
  refine Or.inl ⟨_, _, _, _, rfl, ?_⟩
  refine K_nb (st' := []) rfl ?_
  have g8 : (-1) ≤ m3.1 206 ∧ m3.1 206 ≤ 65535 := Tm3.1 206
  replace h4 : (m.1 213) = 0 := h4
  refine T_ld 8 (.ref 178) rfl (fun _ => rfl) ?_
  refine K_gf 11 (.ref 31) rfl rfl kd_178 rfl rfl rfl ?_
  refine K_gf 14 (.ref 34) rfl rfl kd_31 rfl rfl rfl ?_
  refine T_ld 15 (.int (i32 s)) rfl (fun _ => rfl) ?_
  refine T_ld 16 (.ref 178) rfl (fun _ => rfl) ?_
  refine K_gf 19 (.ref 12) rfl rfl kd_178 rfl rfl rfl ?_
  refine K_gf 22 (.ref 22) rfl rfl kd_12 rfl rfl rfl ?_
  refine K_gf 25 (.int (i32 (m.1 220))) rfl rfl kd_22 rfl (kval_c2 (k := 220) (F := fun x => .int (i32 x)) rfl (show (m3.1 220) = (m.1 220) from (fr1 Fm3 220 rfl))) rfl ?_
  have G9 : ∀ j, 0 ≤ (upI (m.2 28) s (m.1 220)) j ∧ (upI (m.2 28) s (m.1 220)) j ≤ 1090 := upI_rg (hT.2.1 28) ⟨by omega, by omega⟩
  refine K_iast (a' := [(28, upI (m.2 28) s (m.1 220))]) 26 28 (m.2 28) rfl rfl rfl (by omega) (show s < (16 : Int) by omega) (show (m3.2 28) = (m.2 28) from (fr2 Fm3 28 rfl)) rfl ?_
  refine T_ld 27 (.ref 178) rfl (fun _ => rfl) ?_
  refine K_gf 30 (.ref 181) rfl rfl kd_178 rfl rfl rfl ?_
  refine T_ld 31 (.int (i32 (-1))) rfl (fun _ => rfl) ?_
  refine T_callx 34 92 [.ref 181, .int (i32 (-1))] [] rfl (fun _ => rfl) rfl rfl (c_fm_whole w (mO m3 [] [(28, upI (m.2 28) s (m.1 220))]) c N D (by omega) (KTy_mO Tm3 rfl rfl trivial ⟨G9, trivial⟩) (-1) ⟨by decide, by decide⟩ (show NKp (m3.2 18) (m3.2 19) by rewrite [(show (m3.2 18) = (m.2 18) from (fr2 Fm3 18 rfl)), (show (m3.2 19) = (m.2 19) from (fr2 Fm3 19 rfl))]; exact hNK) (show KPp (m3.1 203) (m3.2 8) (m3.2 9) (m3.1 214) (m3.1 215) (m3.1 216) (m3.1 217) (m3.1 221) (m3.1 223) (m3.1 219) by rewrite [(show (m3.1 203) = (m.1 203) from (fr1 Fm3 203 rfl)), (show (m3.2 8) = (m.2 8) from (fr2 Fm3 8 rfl)), (show (m3.2 9) = (m.2 9) from (fr2 Fm3 9 rfl)), (show (m3.1 214) = (m.1 214) from (fr1 Fm3 214 rfl)), (show (m3.1 215) = (m.1 215) from (fr1 Fm3 215 rfl)), (show (m3.1 216) = (m.1 216) from (fr1 Fm3 216 rfl)), (show (m3.1 217) = (m.1 217) from (fr1 Fm3 217 rfl)), (show (m3.1 221) = (m.1 221) from (fr1 Fm3 221 rfl)), (show (m3.1 223) = (m.1 223) from (fr1 Fm3 223 rfl)), (show (m3.1 219) = (m.1 219) from (fr1 Fm3 219 rfl))]; exact pKP) (show (-1) ≤ (-1 : Int) ∧ (-1 : Int) ≤ 15 by omega)) (fun rr10 k11 => ?_)
  rcases k11 with ⟨m12, ro, Tm12, Fm12, g13, h14, rfl⟩ | ⟨xx18, m15, hx16, Tm15, Fm15, h17, rfl⟩
  rotate_left
  · skip
    refine Or.inr ⟨_, _, _, _, rfl, ?_⟩
    have hNK := h17
    exact Or.inr ⟨xx18, (mO m15 [] []), (hx16), Tm15, (fr_m (fr_s Fm15 (fr_m (fr_s Fm3 (fr_m fr_0 rfl rfl) rfl rfl) rfl rfl) rfl rfl) rfl rfl), (show NKp (m15.2 18) (m15.2 19) by exact hNK), rfl⟩
  refine Or.inl ⟨_, _, _, _, rfl, ?_⟩
  refine K_nb (st' := [.int (i32 ro)]) rfl ?_
  obtain ⟨g13a, g13b⟩ := g13
  have g19 : (-1) ≤ m12.1 206 ∧ m12.1 206 ≤ 65535 := Tm12.1 206
  have g20 : 0 ≤ m12.1 213 ∧ m12.1 213 ≤ 1 := Tm12.1 213
  have g21 : 0 ≤ m12.1 220 ∧ m12.1 220 ≤ 1090 := Tm12.1 220
  replace h14 : NKp (m12.2 18) (m12.2 19) := h14
  have hNK := h14
  refine T_sto 35 [(2, .int (i32 ro)), (0, .ref 178), (1, .int (i32 s))] rfl (fun _ => rfl) ?_
  refine T_ld 36 (.ref 178) rfl (fun _ => rfl) ?_
  refine K_gf 39 (.ref 31) rfl rfl kd_178 rfl rfl rfl ?_
  refine K_gf 42 (.ref 35) rfl rfl kd_31 rfl rfl rfl ?_
  refine T_ld 43 (.int (i32 s)) rfl (fun _ => rfl) ?_
  refine T_ld 44 (.int (i32 ro)) rfl (fun _ => rfl) ?_
  have G22 : ∀ j, (-1) ≤ (upI (m.2 29) s ro) j ∧ (upI (m.2 29) s ro) j ≤ 1089 := upI_rg (hT.2.1 29) ⟨by omega, by omega⟩
  refine K_iast (a' := [(29, upI (m.2 29) s ro)]) 45 29 (m.2 29) rfl rfl rfl (by omega) (show s < (16 : Int) by omega) (show (m12.2 29) = (m.2 29) from ((fr2 Fm12 29 rfl).trans (fr2 Fm3 29 rfl))) rfl ?_
  refine T_ld 46 (.ref 178) rfl (fun _ => rfl) ?_
  refine K_gf 49 (.ref 6) rfl rfl kd_178 rfl rfl rfl ?_
  refine T_ld 51 (.int (i32 123)) rfl (fun _ => rfl) ?_
  refine T_callx 54 78 [.ref 6, .int (i32 123)] [] rfl (fun _ => rfl) rfl rfl (c_tx_expect w (mO m12 [] [(29, upI (m.2 29) s ro)]) c N D (by omega) (KTy_mO Tm12 rfl rfl trivial ⟨G22, trivial⟩) 123 ⟨by decide, by decide⟩) (fun rr23 k24 => ?_)
  rcases k24 with ⟨m25, Tm25, Fm25, h26, h27, rfl⟩ | ⟨xx30, m28, hx29, Tm28, Fm28, rfl⟩
  rotate_left
  · skip
    refine Or.inr ⟨_, _, _, _, rfl, ?_⟩
    exact Or.inr ⟨xx30, (mO m28 [] []), (hx29), Tm28, (fr_m (fr_s Fm28 (fr_m (fr_s Fm12 (fr_m (fr_s Fm3 (fr_m fr_0 rfl rfl) rfl rfl) rfl rfl) rfl rfl) rfl rfl) rfl rfl) rfl rfl), (show NKp (m28.2 18) (m28.2 19) by rewrite [(show (m28.2 18) = (m12.2 18) from (fr2 Fm28 18 rfl)), (show (m28.2 19) = (m12.2 19) from (fr2 Fm28 19 rfl))]; exact hNK), rfl⟩
  refine Or.inl ⟨_, _, _, _, rfl, ?_⟩
  refine K_nb (st' := []) rfl ?_
  have g31 : (-1) ≤ m25.1 206 ∧ m25.1 206 ≤ 65535 := Tm25.1 206
  replace h26 : (m12.1 206) = (123 : Int) := h26
  replace h27 : (m12.1 213) = 0 := h27
  refine T_ld 55 (.int (i32 0)) rfl (fun _ => rfl) ?_
  refine T_sto 56 [(3, .int (i32 0)), (2, .int (i32 ro)), (0, .ref 178), (1, .int (i32 s))] rfl (fun _ => rfl) ?_
  have L56_34 : ∀ (n42 : Nat) (v32 : Int) (m33 : mR), (R32 v32) → KTy m33 → fr [203, 205, 206, 207, 208, 209, 210, 211, 212, 221] [6, 7, 8, 9, 26, 29, 30, 31, 32, 33, 35, 36] (mO m25 [] []) m33 → (0 ≤ v32) → (KPp (m33.1 203) (m33.2 8) (m33.2 9) (m.1 214) (m.1 215) (m.1 216) (m.1 217) (m33.1 221) (m.1 223) (m.1 219)) → (SSp (m.1 222) (m33.2 36) (m33.1 221)) → (0 ≤ v32 ∧ v32 ≤ 9) → 12 - v32 < (n42 : Int) → TT w D pm_91 (56, [(0, .ref 178), (1, .int (i32 s)), (2, .int (i32 ro)), (3, .int (i32 v32))], [], (khp (mO m33 [] []) c, N), 0, 0) (Q_rd_select m c N s) := by
    intro n42
    induction n42 with
    | zero =>
      intro v32 m33 q39 Tm33 Fm33 ic35 ic36 ic37 ic38 hmu
      obtain ⟨q39a, q39b⟩ := id q39
      have q40_203 : 0 ≤ m33.1 203 ∧ m33.1 203 ≤ 90 := Tm33.1 203
      have q40_206 : (-1) ≤ m33.1 206 ∧ m33.1 206 ≤ 65535 := Tm33.1 206
      have q40_221 : 0 ≤ m33.1 221 ∧ m33.1 221 ≤ 16 := Tm33.1 221
      have pKP := ic36
      have hSS := ic37
      exfalso
      omega
    | succ n42 ih =>
      intro v32 m33 q39 Tm33 Fm33 ic35 ic36 ic37 ic38 hmu
      obtain ⟨q39a, q39b⟩ := id q39
      have q40_203 : 0 ≤ m33.1 203 ∧ m33.1 203 ≤ 90 := Tm33.1 203
      have q40_206 : (-1) ≤ m33.1 206 ∧ m33.1 206 ≤ 65535 := Tm33.1 206
      have q40_221 : 0 ≤ m33.1 221 ∧ m33.1 221 ≤ 16 := Tm33.1 221
      have pKP := ic36
      have hSS := ic37
      have ih43 := ih
      refine T_ld 57 (.int (i32 v32)) rfl (fun _ => rfl) ?_
      refine T_ld 59 (.int (i32 8)) rfl (fun _ => rfl) ?_
      refine T_icmp 99 62 rfl rfl rfl (r32 (by omega) (by omega)) ⟨by decide, by decide⟩ (fun (h44 : (8 : Int) < v32) => ?_) (fun (h44 : ¬ ((8 : Int) < v32)) => ?_)
      · skip
        refine T_ld 100 (.ref 178) rfl (fun _ => rfl) ?_
        refine K_gf 103 (.ref 6) rfl rfl kd_178 rfl rfl rfl ?_
        refine T_ld 106 (.int (i32 308)) rfl (fun _ => rfl) ?_
        refine T_callx 109 78 [.ref 6, .int (i32 308)] [] rfl (fun _ => rfl) rfl rfl (c_tx_expect w (mO m33 [] []) c N D (by omega) Tm33 308 ⟨by decide, by decide⟩) (fun rr45 k46 => ?_)
        rcases k46 with ⟨m47, Tm47, Fm47, h48, h49, rfl⟩ | ⟨xx52, m50, hx51, Tm50, Fm50, rfl⟩
        rotate_left
        · skip
          refine Or.inr ⟨_, _, _, _, rfl, ?_⟩
          exact Or.inr ⟨xx52, (mO m50 [] []), (hx51), Tm50, (fr_m (fr_s Fm50 (fr_m (fr_s Fm33 (fr_m (fr_s Fm25 (fr_m (fr_s Fm12 (fr_m (fr_s Fm3 (fr_m fr_0 rfl rfl) rfl rfl) rfl rfl) rfl rfl) rfl rfl) rfl rfl) rfl rfl) rfl rfl) rfl rfl) rfl rfl) rfl rfl), (show NKp (m50.2 18) (m50.2 19) by rewrite [(show (m50.2 18) = (m12.2 18) from ((fr2 Fm50 18 rfl).trans ((fr2 Fm33 18 rfl).trans (fr2 Fm25 18 rfl)))), (show (m50.2 19) = (m12.2 19) from ((fr2 Fm50 19 rfl).trans ((fr2 Fm33 19 rfl).trans (fr2 Fm25 19 rfl))))]; exact hNK), rfl⟩
        refine Or.inl ⟨_, _, _, _, rfl, ?_⟩
        refine K_nb (st' := []) rfl ?_
        have g53 : (-1) ≤ m47.1 206 ∧ m47.1 206 ≤ 65535 := Tm47.1 206
        replace h48 : (m33.1 206) = (308 : Int) := h48
        replace h49 : (m33.1 213) = 0 := h49
        rewrite [(show (m33.1 213) = (m12.1 213) from ((fr1 Fm33 213 rfl).trans (fr1 Fm25 213 rfl)))] at h49
        refine T_ld 110 (.ref 178) rfl (fun _ => rfl) ?_
        refine K_gf 113 (.ref 6) rfl rfl kd_178 rfl rfl rfl ?_
        refine T_ld 115 (.int (i32 58)) rfl (fun _ => rfl) ?_
        refine T_callx 118 78 [.ref 6, .int (i32 58)] [] rfl (fun _ => rfl) rfl rfl (c_tx_expect w (mO m47 [] []) c N D (by omega) Tm47 58 ⟨by decide, by decide⟩) (fun rr54 k55 => ?_)
        rcases k55 with ⟨m56, Tm56, Fm56, h57, h58, rfl⟩ | ⟨xx61, m59, hx60, Tm59, Fm59, rfl⟩
        rotate_left
        · skip
          refine Or.inr ⟨_, _, _, _, rfl, ?_⟩
          exact Or.inr ⟨xx61, (mO m59 [] []), (hx60), Tm59, (fr_m (fr_s Fm59 (fr_m (fr_s Fm47 (fr_m (fr_s Fm33 (fr_m (fr_s Fm25 (fr_m (fr_s Fm12 (fr_m (fr_s Fm3 (fr_m fr_0 rfl rfl) rfl rfl) rfl rfl) rfl rfl) rfl rfl) rfl rfl) rfl rfl) rfl rfl) rfl rfl) rfl rfl) rfl rfl) rfl rfl) rfl rfl), (show NKp (m59.2 18) (m59.2 19) by rewrite [(show (m59.2 18) = (m12.2 18) from ((fr2 Fm59 18 rfl).trans ((fr2 Fm47 18 rfl).trans ((fr2 Fm33 18 rfl).trans (fr2 Fm25 18 rfl))))), (show (m59.2 19) = (m12.2 19) from ((fr2 Fm59 19 rfl).trans ((fr2 Fm47 19 rfl).trans ((fr2 Fm33 19 rfl).trans (fr2 Fm25 19 rfl)))))]; exact hNK), rfl⟩
        refine Or.inl ⟨_, _, _, _, rfl, ?_⟩
        refine K_nb (st' := []) rfl ?_
        have g62 : (-1) ≤ m56.1 206 ∧ m56.1 206 ≤ 65535 := Tm56.1 206
        replace h57 : (m47.1 206) = (58 : Int) := h57
        replace h58 : (m47.1 213) = 0 := h58
        rewrite [(show (m47.1 213) = (m12.1 213) from ((fr1 Fm47 213 rfl).trans ((fr1 Fm33 213 rfl).trans (fr1 Fm25 213 rfl))))] at h58
        refine T_ld 119 (.ref 178) rfl (fun _ => rfl) ?_
        refine K_gf 122 (.ref 31) rfl rfl kd_178 rfl rfl rfl ?_
        refine K_gf 125 (.ref 40) rfl rfl kd_31 rfl rfl rfl ?_
        refine T_ld 126 (.int (i32 s)) rfl (fun _ => rfl) ?_
        refine T_ld 127 (.ref 178) rfl (fun _ => rfl) ?_
        refine T_callx 130 117 [.ref 178] [.int (i32 s), .ref 40] rfl (fun _ => rfl) rfl rfl (c_rd_goal w (mO m56 [] []) c N D (by omega) Tm56 (show KPp (m56.1 203) (m56.2 8) (m56.2 9) (m56.1 214) (m56.1 215) (m56.1 216) (m56.1 217) (m56.1 221) (m56.1 223) (m56.1 219) by rewrite [(show (m56.1 203) = (m33.1 203) from ((fr1 Fm56 203 rfl).trans (fr1 Fm47 203 rfl))), (show (m56.2 8) = (m33.2 8) from ((fr2 Fm56 8 rfl).trans (fr2 Fm47 8 rfl))), (show (m56.2 9) = (m33.2 9) from ((fr2 Fm56 9 rfl).trans (fr2 Fm47 9 rfl))), (show (m56.1 214) = (m.1 214) from ((fr1 Fm56 214 rfl).trans ((fr1 Fm47 214 rfl).trans ((fr1 Fm33 214 rfl).trans ((fr1 Fm25 214 rfl).trans ((fr1 Fm12 214 rfl).trans (fr1 Fm3 214 rfl))))))), (show (m56.1 215) = (m.1 215) from ((fr1 Fm56 215 rfl).trans ((fr1 Fm47 215 rfl).trans ((fr1 Fm33 215 rfl).trans ((fr1 Fm25 215 rfl).trans ((fr1 Fm12 215 rfl).trans (fr1 Fm3 215 rfl))))))), (show (m56.1 216) = (m.1 216) from ((fr1 Fm56 216 rfl).trans ((fr1 Fm47 216 rfl).trans ((fr1 Fm33 216 rfl).trans ((fr1 Fm25 216 rfl).trans ((fr1 Fm12 216 rfl).trans (fr1 Fm3 216 rfl))))))), (show (m56.1 217) = (m.1 217) from ((fr1 Fm56 217 rfl).trans ((fr1 Fm47 217 rfl).trans ((fr1 Fm33 217 rfl).trans ((fr1 Fm25 217 rfl).trans ((fr1 Fm12 217 rfl).trans (fr1 Fm3 217 rfl))))))), (show (m56.1 221) = (m33.1 221) from ((fr1 Fm56 221 rfl).trans (fr1 Fm47 221 rfl))), (show (m56.1 223) = (m.1 223) from ((fr1 Fm56 223 rfl).trans ((fr1 Fm47 223 rfl).trans ((fr1 Fm33 223 rfl).trans ((fr1 Fm25 223 rfl).trans ((fr1 Fm12 223 rfl).trans (fr1 Fm3 223 rfl))))))), (show (m56.1 219) = (m.1 219) from ((fr1 Fm56 219 rfl).trans ((fr1 Fm47 219 rfl).trans ((fr1 Fm33 219 rfl).trans ((fr1 Fm25 219 rfl).trans ((fr1 Fm12 219 rfl).trans (fr1 Fm3 219 rfl)))))))]; exact pKP) (show SSp (m56.1 222) (m56.2 36) (m56.1 221) by rewrite [(show (m56.1 222) = (m.1 222) from ((fr1 Fm56 222 rfl).trans ((fr1 Fm47 222 rfl).trans ((fr1 Fm33 222 rfl).trans ((fr1 Fm25 222 rfl).trans ((fr1 Fm12 222 rfl).trans (fr1 Fm3 222 rfl))))))), (show (m56.2 36) = (m33.2 36) from ((fr2 Fm56 36 rfl).trans (fr2 Fm47 36 rfl))), (show (m56.1 221) = (m33.1 221) from ((fr1 Fm56 221 rfl).trans (fr1 Fm47 221 rfl)))]; exact hSS)) (fun rr63 k64 => ?_)
        rcases k64 with ⟨m65, go, Tm65, Fm65, g66, h67, h68, h69, rfl⟩ | ⟨xx72, m70, hx71, Tm70, Fm70, rfl⟩
        rotate_left
        · skip
          refine Or.inr ⟨_, _, _, _, rfl, ?_⟩
          exact Or.inr ⟨xx72, (mO m70 [] []), (hx71), Tm70, (fr_m (fr_s Fm70 (fr_m (fr_s Fm56 (fr_m (fr_s Fm47 (fr_m (fr_s Fm33 (fr_m (fr_s Fm25 (fr_m (fr_s Fm12 (fr_m (fr_s Fm3 (fr_m fr_0 rfl rfl) rfl rfl) rfl rfl) rfl rfl) rfl rfl) rfl rfl) rfl rfl) rfl rfl) rfl rfl) rfl rfl) rfl rfl) rfl rfl) rfl rfl) rfl rfl) rfl rfl), (show NKp (m70.2 18) (m70.2 19) by rewrite [(show (m70.2 18) = (m12.2 18) from ((fr2 Fm70 18 rfl).trans ((fr2 Fm56 18 rfl).trans ((fr2 Fm47 18 rfl).trans ((fr2 Fm33 18 rfl).trans (fr2 Fm25 18 rfl)))))), (show (m70.2 19) = (m12.2 19) from ((fr2 Fm70 19 rfl).trans ((fr2 Fm56 19 rfl).trans ((fr2 Fm47 19 rfl).trans ((fr2 Fm33 19 rfl).trans (fr2 Fm25 19 rfl))))))]; exact hNK), rfl⟩
        refine Or.inl ⟨_, _, _, _, rfl, ?_⟩
        refine K_nb (st' := [.int (i32 go), .int (i32 s), .ref 40]) rfl ?_
        obtain ⟨g66a, g66b⟩ := g66
        have g73 : 0 ≤ m65.1 203 ∧ m65.1 203 ≤ 90 := Tm65.1 203
        have g74 : (-1) ≤ m65.1 206 ∧ m65.1 206 ≤ 65535 := Tm65.1 206
        have g75 : 0 ≤ m65.1 221 ∧ m65.1 221 ≤ 16 := Tm65.1 221
        replace h67 : KPp (m65.1 203) (m65.2 8) (m65.2 9) (m56.1 214) (m56.1 215) (m56.1 216) (m56.1 217) (m65.1 221) (m56.1 223) (m56.1 219) := h67
        rewrite [(show (m56.1 214) = (m.1 214) from ((fr1 Fm56 214 rfl).trans ((fr1 Fm47 214 rfl).trans ((fr1 Fm33 214 rfl).trans ((fr1 Fm25 214 rfl).trans ((fr1 Fm12 214 rfl).trans (fr1 Fm3 214 rfl))))))), (show (m56.1 215) = (m.1 215) from ((fr1 Fm56 215 rfl).trans ((fr1 Fm47 215 rfl).trans ((fr1 Fm33 215 rfl).trans ((fr1 Fm25 215 rfl).trans ((fr1 Fm12 215 rfl).trans (fr1 Fm3 215 rfl))))))), (show (m56.1 216) = (m.1 216) from ((fr1 Fm56 216 rfl).trans ((fr1 Fm47 216 rfl).trans ((fr1 Fm33 216 rfl).trans ((fr1 Fm25 216 rfl).trans ((fr1 Fm12 216 rfl).trans (fr1 Fm3 216 rfl))))))), (show (m56.1 217) = (m.1 217) from ((fr1 Fm56 217 rfl).trans ((fr1 Fm47 217 rfl).trans ((fr1 Fm33 217 rfl).trans ((fr1 Fm25 217 rfl).trans ((fr1 Fm12 217 rfl).trans (fr1 Fm3 217 rfl))))))), (show (m56.1 223) = (m.1 223) from ((fr1 Fm56 223 rfl).trans ((fr1 Fm47 223 rfl).trans ((fr1 Fm33 223 rfl).trans ((fr1 Fm25 223 rfl).trans ((fr1 Fm12 223 rfl).trans (fr1 Fm3 223 rfl))))))), (show (m56.1 219) = (m.1 219) from ((fr1 Fm56 219 rfl).trans ((fr1 Fm47 219 rfl).trans ((fr1 Fm33 219 rfl).trans ((fr1 Fm25 219 rfl).trans ((fr1 Fm12 219 rfl).trans (fr1 Fm3 219 rfl)))))))] at h67
        have pKP := h67
        replace h68 : SSp (m56.1 222) (m65.2 36) (m65.1 221) := h68
        rewrite [(show (m56.1 222) = (m.1 222) from ((fr1 Fm56 222 rfl).trans ((fr1 Fm47 222 rfl).trans ((fr1 Fm33 222 rfl).trans ((fr1 Fm25 222 rfl).trans ((fr1 Fm12 222 rfl).trans (fr1 Fm3 222 rfl)))))))] at h68
        have hSS := h68
        replace h69 : (m56.1 221) ≤ (m65.1 221) := h69
        rewrite [(show (m56.1 221) = (m33.1 221) from ((fr1 Fm56 221 rfl).trans (fr1 Fm47 221 rfl)))] at h69
        have G76 : ∀ j, 0 ≤ (upI (m.2 34) s go) j ∧ (upI (m.2 34) s go) j ≤ 17 := upI_rg (hT.2.1 34) ⟨by omega, by omega⟩
        refine K_iast (a' := [(34, upI (m.2 34) s go)]) 131 34 (m.2 34) rfl rfl rfl (by omega) (show s < (16 : Int) by omega) (show (m65.2 34) = (m.2 34) from ((fr2 Fm65 34 rfl).trans ((fr2 Fm56 34 rfl).trans ((fr2 Fm47 34 rfl).trans ((fr2 Fm33 34 rfl).trans ((fr2 Fm25 34 rfl).trans ((fr2 Fm12 34 rfl).trans (fr2 Fm3 34 rfl)))))))) rfl ?_
        refine T_ld 132 (.ref 178) rfl (fun _ => rfl) ?_
        refine K_gf 135 (.ref 6) rfl rfl kd_178 rfl rfl rfl ?_
        refine T_ld 137 (.int (i32 59)) rfl (fun _ => rfl) ?_
        refine T_callx 140 78 [.ref 6, .int (i32 59)] [] rfl (fun _ => rfl) rfl rfl (c_tx_expect w (mO m65 [] [(34, upI (m.2 34) s go)]) c N D (by omega) (KTy_mO Tm65 rfl rfl trivial ⟨G76, trivial⟩) 59 ⟨by decide, by decide⟩) (fun rr77 k78 => ?_)
        rcases k78 with ⟨m79, Tm79, Fm79, h80, h81, rfl⟩ | ⟨xx84, m82, hx83, Tm82, Fm82, rfl⟩
        rotate_left
        · skip
          refine Or.inr ⟨_, _, _, _, rfl, ?_⟩
          exact Or.inr ⟨xx84, (mO m82 [] []), (hx83), Tm82, (fr_m (fr_s Fm82 (fr_m (fr_s Fm65 (fr_m (fr_s Fm56 (fr_m (fr_s Fm47 (fr_m (fr_s Fm33 (fr_m (fr_s Fm25 (fr_m (fr_s Fm12 (fr_m (fr_s Fm3 (fr_m fr_0 rfl rfl) rfl rfl) rfl rfl) rfl rfl) rfl rfl) rfl rfl) rfl rfl) rfl rfl) rfl rfl) rfl rfl) rfl rfl) rfl rfl) rfl rfl) rfl rfl) rfl rfl) rfl rfl) rfl rfl), (show NKp (m82.2 18) (m82.2 19) by rewrite [(show (m82.2 18) = (m12.2 18) from ((fr2 Fm82 18 rfl).trans ((fr2 Fm65 18 rfl).trans ((fr2 Fm56 18 rfl).trans ((fr2 Fm47 18 rfl).trans ((fr2 Fm33 18 rfl).trans (fr2 Fm25 18 rfl))))))), (show (m82.2 19) = (m12.2 19) from ((fr2 Fm82 19 rfl).trans ((fr2 Fm65 19 rfl).trans ((fr2 Fm56 19 rfl).trans ((fr2 Fm47 19 rfl).trans ((fr2 Fm33 19 rfl).trans (fr2 Fm25 19 rfl)))))))]; exact hNK), rfl⟩
        refine Or.inl ⟨_, _, _, _, rfl, ?_⟩
        refine K_nb (st' := []) rfl ?_
        have g85 : (-1) ≤ m79.1 206 ∧ m79.1 206 ≤ 65535 := Tm79.1 206
        replace h80 : (m65.1 206) = (59 : Int) := h80
        replace h81 : (m65.1 213) = 0 := h81
        rewrite [(show (m65.1 213) = (m12.1 213) from ((fr1 Fm65 213 rfl).trans ((fr1 Fm56 213 rfl).trans ((fr1 Fm47 213 rfl).trans ((fr1 Fm33 213 rfl).trans (fr1 Fm25 213 rfl))))))] at h81
        refine T_ld 141 (.ref 178) rfl (fun _ => rfl) ?_
        refine K_gf 144 (.ref 6) rfl rfl kd_178 rfl rfl rfl ?_
        refine T_ld 146 (.int (i32 125)) rfl (fun _ => rfl) ?_
        refine T_callx 149 78 [.ref 6, .int (i32 125)] [] rfl (fun _ => rfl) rfl rfl (c_tx_expect w (mO m79 [] []) c N D (by omega) Tm79 125 ⟨by decide, by decide⟩) (fun rr86 k87 => ?_)
        rcases k87 with ⟨m88, Tm88, Fm88, h89, h90, rfl⟩ | ⟨xx93, m91, hx92, Tm91, Fm91, rfl⟩
        rotate_left
        · skip
          refine Or.inr ⟨_, _, _, _, rfl, ?_⟩
          exact Or.inr ⟨xx93, (mO m91 [] []), (hx92), Tm91, (fr_m (fr_s Fm91 (fr_m (fr_s Fm79 (fr_m (fr_s Fm65 (fr_m (fr_s Fm56 (fr_m (fr_s Fm47 (fr_m (fr_s Fm33 (fr_m (fr_s Fm25 (fr_m (fr_s Fm12 (fr_m (fr_s Fm3 (fr_m fr_0 rfl rfl) rfl rfl) rfl rfl) rfl rfl) rfl rfl) rfl rfl) rfl rfl) rfl rfl) rfl rfl) rfl rfl) rfl rfl) rfl rfl) rfl rfl) rfl rfl) rfl rfl) rfl rfl) rfl rfl) rfl rfl) rfl rfl), (show NKp (m91.2 18) (m91.2 19) by rewrite [(show (m91.2 18) = (m12.2 18) from ((fr2 Fm91 18 rfl).trans ((fr2 Fm79 18 rfl).trans ((fr2 Fm65 18 rfl).trans ((fr2 Fm56 18 rfl).trans ((fr2 Fm47 18 rfl).trans ((fr2 Fm33 18 rfl).trans (fr2 Fm25 18 rfl)))))))), (show (m91.2 19) = (m12.2 19) from ((fr2 Fm91 19 rfl).trans ((fr2 Fm79 19 rfl).trans ((fr2 Fm65 19 rfl).trans ((fr2 Fm56 19 rfl).trans ((fr2 Fm47 19 rfl).trans ((fr2 Fm33 19 rfl).trans (fr2 Fm25 19 rfl))))))))]; exact hNK), rfl⟩
        refine Or.inl ⟨_, _, _, _, rfl, ?_⟩
        refine K_nb (st' := []) rfl ?_
        have g94 : (-1) ≤ m88.1 206 ∧ m88.1 206 ≤ 65535 := Tm88.1 206
        replace h89 : (m79.1 206) = (125 : Int) := h89
        replace h90 : (m79.1 213) = 0 := h90
        rewrite [(show (m79.1 213) = (m12.1 213) from ((fr1 Fm79 213 rfl).trans ((fr1 Fm65 213 rfl).trans ((fr1 Fm56 213 rfl).trans ((fr1 Fm47 213 rfl).trans ((fr1 Fm33 213 rfl).trans (fr1 Fm25 213 rfl)))))))] at h90
        refine T_ret rfl (fun _ => rfl) ?_
        exact Or.inl ⟨(mO m88 [] []), Tm88, (fr_m (fr_s Fm88 (fr_m (fr_s Fm79 (fr_m (fr_s Fm65 (fr_m (fr_s Fm56 (fr_m (fr_s Fm47 (fr_m (fr_s Fm33 (fr_m (fr_s Fm25 (fr_m (fr_s Fm12 (fr_m (fr_s Fm3 (fr_m fr_0 rfl rfl) rfl rfl) rfl rfl) rfl rfl) rfl rfl) rfl rfl) rfl rfl) rfl rfl) rfl rfl) rfl rfl) rfl rfl) rfl rfl) rfl rfl) rfl rfl) rfl rfl) rfl rfl) rfl rfl) rfl rfl) rfl rfl), (show KPp (m88.1 203) (m88.2 8) (m88.2 9) (m.1 214) (m.1 215) (m.1 216) (m.1 217) (m88.1 221) (m.1 223) (m.1 219) by rewrite [(show (m88.1 203) = (m65.1 203) from ((fr1 Fm88 203 rfl).trans (fr1 Fm79 203 rfl))), (show (m88.2 8) = (m65.2 8) from ((fr2 Fm88 8 rfl).trans (fr2 Fm79 8 rfl))), (show (m88.2 9) = (m65.2 9) from ((fr2 Fm88 9 rfl).trans (fr2 Fm79 9 rfl))), (show (m88.1 221) = (m65.1 221) from ((fr1 Fm88 221 rfl).trans (fr1 Fm79 221 rfl)))]; first | (exact pKP) | (exfalso; omega)), (show SSp (m.1 222) (m88.2 36) (m88.1 221) by rewrite [(show (m88.2 36) = (m65.2 36) from ((fr2 Fm88 36 rfl).trans (fr2 Fm79 36 rfl))), (show (m88.1 221) = (m65.1 221) from ((fr1 Fm88 221 rfl).trans (fr1 Fm79 221 rfl)))]; first | (exact hSS) | (exfalso; omega)), (show NKp (m88.2 18) (m88.2 19) by rewrite [(show (m88.2 18) = (m12.2 18) from ((fr2 Fm88 18 rfl).trans ((fr2 Fm79 18 rfl).trans ((fr2 Fm65 18 rfl).trans ((fr2 Fm56 18 rfl).trans ((fr2 Fm47 18 rfl).trans ((fr2 Fm33 18 rfl).trans (fr2 Fm25 18 rfl)))))))), (show (m88.2 19) = (m12.2 19) from ((fr2 Fm88 19 rfl).trans ((fr2 Fm79 19 rfl).trans ((fr2 Fm65 19 rfl).trans ((fr2 Fm56 19 rfl).trans ((fr2 Fm47 19 rfl).trans ((fr2 Fm33 19 rfl).trans (fr2 Fm25 19 rfl))))))))]; first | (exact hNK) | (exfalso; omega)), rfl⟩
      · skip
        refine T_ld 63 (.ref 178) rfl (fun _ => rfl) ?_
        refine K_gf 66 (.ref 6) rfl rfl kd_178 rfl rfl rfl ?_
        refine K_gf 69 (.int (i32 (m33.1 206))) rfl rfl kd_6 rfl rfl rfl ?_
        refine T_ld 72 (.int (i32 257)) rfl (fun _ => rfl) ?_
        refine T_icmp 99 75 rfl rfl rfl (r32 (by omega) (by omega)) ⟨by decide, by decide⟩ (fun (h95 : (m33.1 206) ≠ 257) => ?_) (fun (h95 : ¬ ((m33.1 206) ≠ 257)) => ?_)
        · skip
          refine T_ld 100 (.ref 178) rfl (fun _ => rfl) ?_
          refine K_gf 103 (.ref 6) rfl rfl kd_178 rfl rfl rfl ?_
          refine T_ld 106 (.int (i32 308)) rfl (fun _ => rfl) ?_
          refine T_callx 109 78 [.ref 6, .int (i32 308)] [] rfl (fun _ => rfl) rfl rfl (c_tx_expect w (mO m33 [] []) c N D (by omega) Tm33 308 ⟨by decide, by decide⟩) (fun rr96 k97 => ?_)
          rcases k97 with ⟨m98, Tm98, Fm98, h99, h100, rfl⟩ | ⟨xx103, m101, hx102, Tm101, Fm101, rfl⟩
          rotate_left
          · skip
            refine Or.inr ⟨_, _, _, _, rfl, ?_⟩
            exact Or.inr ⟨xx103, (mO m101 [] []), (hx102), Tm101, (fr_m (fr_s Fm101 (fr_m (fr_s Fm33 (fr_m (fr_s Fm25 (fr_m (fr_s Fm12 (fr_m (fr_s Fm3 (fr_m fr_0 rfl rfl) rfl rfl) rfl rfl) rfl rfl) rfl rfl) rfl rfl) rfl rfl) rfl rfl) rfl rfl) rfl rfl) rfl rfl), (show NKp (m101.2 18) (m101.2 19) by rewrite [(show (m101.2 18) = (m12.2 18) from ((fr2 Fm101 18 rfl).trans ((fr2 Fm33 18 rfl).trans (fr2 Fm25 18 rfl)))), (show (m101.2 19) = (m12.2 19) from ((fr2 Fm101 19 rfl).trans ((fr2 Fm33 19 rfl).trans (fr2 Fm25 19 rfl))))]; exact hNK), rfl⟩
          refine Or.inl ⟨_, _, _, _, rfl, ?_⟩
          refine K_nb (st' := []) rfl ?_
          have g104 : (-1) ≤ m98.1 206 ∧ m98.1 206 ≤ 65535 := Tm98.1 206
          replace h99 : (m33.1 206) = (308 : Int) := h99
          replace h100 : (m33.1 213) = 0 := h100
          rewrite [(show (m33.1 213) = (m12.1 213) from ((fr1 Fm33 213 rfl).trans (fr1 Fm25 213 rfl)))] at h100
          refine T_ld 110 (.ref 178) rfl (fun _ => rfl) ?_
          refine K_gf 113 (.ref 6) rfl rfl kd_178 rfl rfl rfl ?_
          refine T_ld 115 (.int (i32 58)) rfl (fun _ => rfl) ?_
          refine T_callx 118 78 [.ref 6, .int (i32 58)] [] rfl (fun _ => rfl) rfl rfl (c_tx_expect w (mO m98 [] []) c N D (by omega) Tm98 58 ⟨by decide, by decide⟩) (fun rr105 k106 => ?_)
          rcases k106 with ⟨m107, Tm107, Fm107, h108, h109, rfl⟩ | ⟨xx112, m110, hx111, Tm110, Fm110, rfl⟩
          rotate_left
          · skip
            refine Or.inr ⟨_, _, _, _, rfl, ?_⟩
            exact Or.inr ⟨xx112, (mO m110 [] []), (hx111), Tm110, (fr_m (fr_s Fm110 (fr_m (fr_s Fm98 (fr_m (fr_s Fm33 (fr_m (fr_s Fm25 (fr_m (fr_s Fm12 (fr_m (fr_s Fm3 (fr_m fr_0 rfl rfl) rfl rfl) rfl rfl) rfl rfl) rfl rfl) rfl rfl) rfl rfl) rfl rfl) rfl rfl) rfl rfl) rfl rfl) rfl rfl) rfl rfl), (show NKp (m110.2 18) (m110.2 19) by rewrite [(show (m110.2 18) = (m12.2 18) from ((fr2 Fm110 18 rfl).trans ((fr2 Fm98 18 rfl).trans ((fr2 Fm33 18 rfl).trans (fr2 Fm25 18 rfl))))), (show (m110.2 19) = (m12.2 19) from ((fr2 Fm110 19 rfl).trans ((fr2 Fm98 19 rfl).trans ((fr2 Fm33 19 rfl).trans (fr2 Fm25 19 rfl)))))]; exact hNK), rfl⟩
          refine Or.inl ⟨_, _, _, _, rfl, ?_⟩
          refine K_nb (st' := []) rfl ?_
          have g113 : (-1) ≤ m107.1 206 ∧ m107.1 206 ≤ 65535 := Tm107.1 206
          replace h108 : (m98.1 206) = (58 : Int) := h108
          replace h109 : (m98.1 213) = 0 := h109
          rewrite [(show (m98.1 213) = (m12.1 213) from ((fr1 Fm98 213 rfl).trans ((fr1 Fm33 213 rfl).trans (fr1 Fm25 213 rfl))))] at h109
          refine T_ld 119 (.ref 178) rfl (fun _ => rfl) ?_
          refine K_gf 122 (.ref 31) rfl rfl kd_178 rfl rfl rfl ?_
          refine K_gf 125 (.ref 40) rfl rfl kd_31 rfl rfl rfl ?_
          refine T_ld 126 (.int (i32 s)) rfl (fun _ => rfl) ?_
          refine T_ld 127 (.ref 178) rfl (fun _ => rfl) ?_
          refine T_callx 130 117 [.ref 178] [.int (i32 s), .ref 40] rfl (fun _ => rfl) rfl rfl (c_rd_goal w (mO m107 [] []) c N D (by omega) Tm107 (show KPp (m107.1 203) (m107.2 8) (m107.2 9) (m107.1 214) (m107.1 215) (m107.1 216) (m107.1 217) (m107.1 221) (m107.1 223) (m107.1 219) by rewrite [(show (m107.1 203) = (m33.1 203) from ((fr1 Fm107 203 rfl).trans (fr1 Fm98 203 rfl))), (show (m107.2 8) = (m33.2 8) from ((fr2 Fm107 8 rfl).trans (fr2 Fm98 8 rfl))), (show (m107.2 9) = (m33.2 9) from ((fr2 Fm107 9 rfl).trans (fr2 Fm98 9 rfl))), (show (m107.1 214) = (m.1 214) from ((fr1 Fm107 214 rfl).trans ((fr1 Fm98 214 rfl).trans ((fr1 Fm33 214 rfl).trans ((fr1 Fm25 214 rfl).trans ((fr1 Fm12 214 rfl).trans (fr1 Fm3 214 rfl))))))), (show (m107.1 215) = (m.1 215) from ((fr1 Fm107 215 rfl).trans ((fr1 Fm98 215 rfl).trans ((fr1 Fm33 215 rfl).trans ((fr1 Fm25 215 rfl).trans ((fr1 Fm12 215 rfl).trans (fr1 Fm3 215 rfl))))))), (show (m107.1 216) = (m.1 216) from ((fr1 Fm107 216 rfl).trans ((fr1 Fm98 216 rfl).trans ((fr1 Fm33 216 rfl).trans ((fr1 Fm25 216 rfl).trans ((fr1 Fm12 216 rfl).trans (fr1 Fm3 216 rfl))))))), (show (m107.1 217) = (m.1 217) from ((fr1 Fm107 217 rfl).trans ((fr1 Fm98 217 rfl).trans ((fr1 Fm33 217 rfl).trans ((fr1 Fm25 217 rfl).trans ((fr1 Fm12 217 rfl).trans (fr1 Fm3 217 rfl))))))), (show (m107.1 221) = (m33.1 221) from ((fr1 Fm107 221 rfl).trans (fr1 Fm98 221 rfl))), (show (m107.1 223) = (m.1 223) from ((fr1 Fm107 223 rfl).trans ((fr1 Fm98 223 rfl).trans ((fr1 Fm33 223 rfl).trans ((fr1 Fm25 223 rfl).trans ((fr1 Fm12 223 rfl).trans (fr1 Fm3 223 rfl))))))), (show (m107.1 219) = (m.1 219) from ((fr1 Fm107 219 rfl).trans ((fr1 Fm98 219 rfl).trans ((fr1 Fm33 219 rfl).trans ((fr1 Fm25 219 rfl).trans ((fr1 Fm12 219 rfl).trans (fr1 Fm3 219 rfl)))))))]; exact pKP) (show SSp (m107.1 222) (m107.2 36) (m107.1 221) by rewrite [(show (m107.1 222) = (m.1 222) from ((fr1 Fm107 222 rfl).trans ((fr1 Fm98 222 rfl).trans ((fr1 Fm33 222 rfl).trans ((fr1 Fm25 222 rfl).trans ((fr1 Fm12 222 rfl).trans (fr1 Fm3 222 rfl))))))), (show (m107.2 36) = (m33.2 36) from ((fr2 Fm107 36 rfl).trans (fr2 Fm98 36 rfl))), (show (m107.1 221) = (m33.1 221) from ((fr1 Fm107 221 rfl).trans (fr1 Fm98 221 rfl)))]; exact hSS)) (fun rr114 k115 => ?_)
          rcases k115 with ⟨m116, go, Tm116, Fm116, g117, h118, h119, h120, rfl⟩ | ⟨xx123, m121, hx122, Tm121, Fm121, rfl⟩
          rotate_left
          · skip
            refine Or.inr ⟨_, _, _, _, rfl, ?_⟩
            exact Or.inr ⟨xx123, (mO m121 [] []), (hx122), Tm121, (fr_m (fr_s Fm121 (fr_m (fr_s Fm107 (fr_m (fr_s Fm98 (fr_m (fr_s Fm33 (fr_m (fr_s Fm25 (fr_m (fr_s Fm12 (fr_m (fr_s Fm3 (fr_m fr_0 rfl rfl) rfl rfl) rfl rfl) rfl rfl) rfl rfl) rfl rfl) rfl rfl) rfl rfl) rfl rfl) rfl rfl) rfl rfl) rfl rfl) rfl rfl) rfl rfl) rfl rfl), (show NKp (m121.2 18) (m121.2 19) by rewrite [(show (m121.2 18) = (m12.2 18) from ((fr2 Fm121 18 rfl).trans ((fr2 Fm107 18 rfl).trans ((fr2 Fm98 18 rfl).trans ((fr2 Fm33 18 rfl).trans (fr2 Fm25 18 rfl)))))), (show (m121.2 19) = (m12.2 19) from ((fr2 Fm121 19 rfl).trans ((fr2 Fm107 19 rfl).trans ((fr2 Fm98 19 rfl).trans ((fr2 Fm33 19 rfl).trans (fr2 Fm25 19 rfl))))))]; exact hNK), rfl⟩
          refine Or.inl ⟨_, _, _, _, rfl, ?_⟩
          refine K_nb (st' := [.int (i32 go), .int (i32 s), .ref 40]) rfl ?_
          obtain ⟨g117a, g117b⟩ := g117
          have g124 : 0 ≤ m116.1 203 ∧ m116.1 203 ≤ 90 := Tm116.1 203
          have g125 : (-1) ≤ m116.1 206 ∧ m116.1 206 ≤ 65535 := Tm116.1 206
          have g126 : 0 ≤ m116.1 221 ∧ m116.1 221 ≤ 16 := Tm116.1 221
          replace h118 : KPp (m116.1 203) (m116.2 8) (m116.2 9) (m107.1 214) (m107.1 215) (m107.1 216) (m107.1 217) (m116.1 221) (m107.1 223) (m107.1 219) := h118
          rewrite [(show (m107.1 214) = (m.1 214) from ((fr1 Fm107 214 rfl).trans ((fr1 Fm98 214 rfl).trans ((fr1 Fm33 214 rfl).trans ((fr1 Fm25 214 rfl).trans ((fr1 Fm12 214 rfl).trans (fr1 Fm3 214 rfl))))))), (show (m107.1 215) = (m.1 215) from ((fr1 Fm107 215 rfl).trans ((fr1 Fm98 215 rfl).trans ((fr1 Fm33 215 rfl).trans ((fr1 Fm25 215 rfl).trans ((fr1 Fm12 215 rfl).trans (fr1 Fm3 215 rfl))))))), (show (m107.1 216) = (m.1 216) from ((fr1 Fm107 216 rfl).trans ((fr1 Fm98 216 rfl).trans ((fr1 Fm33 216 rfl).trans ((fr1 Fm25 216 rfl).trans ((fr1 Fm12 216 rfl).trans (fr1 Fm3 216 rfl))))))), (show (m107.1 217) = (m.1 217) from ((fr1 Fm107 217 rfl).trans ((fr1 Fm98 217 rfl).trans ((fr1 Fm33 217 rfl).trans ((fr1 Fm25 217 rfl).trans ((fr1 Fm12 217 rfl).trans (fr1 Fm3 217 rfl))))))), (show (m107.1 223) = (m.1 223) from ((fr1 Fm107 223 rfl).trans ((fr1 Fm98 223 rfl).trans ((fr1 Fm33 223 rfl).trans ((fr1 Fm25 223 rfl).trans ((fr1 Fm12 223 rfl).trans (fr1 Fm3 223 rfl))))))), (show (m107.1 219) = (m.1 219) from ((fr1 Fm107 219 rfl).trans ((fr1 Fm98 219 rfl).trans ((fr1 Fm33 219 rfl).trans ((fr1 Fm25 219 rfl).trans ((fr1 Fm12 219 rfl).trans (fr1 Fm3 219 rfl)))))))] at h118
          have pKP := h118
          replace h119 : SSp (m107.1 222) (m116.2 36) (m116.1 221) := h119
          rewrite [(show (m107.1 222) = (m.1 222) from ((fr1 Fm107 222 rfl).trans ((fr1 Fm98 222 rfl).trans ((fr1 Fm33 222 rfl).trans ((fr1 Fm25 222 rfl).trans ((fr1 Fm12 222 rfl).trans (fr1 Fm3 222 rfl)))))))] at h119
          have hSS := h119
          replace h120 : (m107.1 221) ≤ (m116.1 221) := h120
          rewrite [(show (m107.1 221) = (m33.1 221) from ((fr1 Fm107 221 rfl).trans (fr1 Fm98 221 rfl)))] at h120
          have G127 : ∀ j, 0 ≤ (upI (m.2 34) s go) j ∧ (upI (m.2 34) s go) j ≤ 17 := upI_rg (hT.2.1 34) ⟨by omega, by omega⟩
          refine K_iast (a' := [(34, upI (m.2 34) s go)]) 131 34 (m.2 34) rfl rfl rfl (by omega) (show s < (16 : Int) by omega) (show (m116.2 34) = (m.2 34) from ((fr2 Fm116 34 rfl).trans ((fr2 Fm107 34 rfl).trans ((fr2 Fm98 34 rfl).trans ((fr2 Fm33 34 rfl).trans ((fr2 Fm25 34 rfl).trans ((fr2 Fm12 34 rfl).trans (fr2 Fm3 34 rfl)))))))) rfl ?_
          refine T_ld 132 (.ref 178) rfl (fun _ => rfl) ?_
          refine K_gf 135 (.ref 6) rfl rfl kd_178 rfl rfl rfl ?_
          refine T_ld 137 (.int (i32 59)) rfl (fun _ => rfl) ?_
          refine T_callx 140 78 [.ref 6, .int (i32 59)] [] rfl (fun _ => rfl) rfl rfl (c_tx_expect w (mO m116 [] [(34, upI (m.2 34) s go)]) c N D (by omega) (KTy_mO Tm116 rfl rfl trivial ⟨G127, trivial⟩) 59 ⟨by decide, by decide⟩) (fun rr128 k129 => ?_)
          rcases k129 with ⟨m130, Tm130, Fm130, h131, h132, rfl⟩ | ⟨xx135, m133, hx134, Tm133, Fm133, rfl⟩
          rotate_left
          · skip
            refine Or.inr ⟨_, _, _, _, rfl, ?_⟩
            exact Or.inr ⟨xx135, (mO m133 [] []), (hx134), Tm133, (fr_m (fr_s Fm133 (fr_m (fr_s Fm116 (fr_m (fr_s Fm107 (fr_m (fr_s Fm98 (fr_m (fr_s Fm33 (fr_m (fr_s Fm25 (fr_m (fr_s Fm12 (fr_m (fr_s Fm3 (fr_m fr_0 rfl rfl) rfl rfl) rfl rfl) rfl rfl) rfl rfl) rfl rfl) rfl rfl) rfl rfl) rfl rfl) rfl rfl) rfl rfl) rfl rfl) rfl rfl) rfl rfl) rfl rfl) rfl rfl) rfl rfl), (show NKp (m133.2 18) (m133.2 19) by rewrite [(show (m133.2 18) = (m12.2 18) from ((fr2 Fm133 18 rfl).trans ((fr2 Fm116 18 rfl).trans ((fr2 Fm107 18 rfl).trans ((fr2 Fm98 18 rfl).trans ((fr2 Fm33 18 rfl).trans (fr2 Fm25 18 rfl))))))), (show (m133.2 19) = (m12.2 19) from ((fr2 Fm133 19 rfl).trans ((fr2 Fm116 19 rfl).trans ((fr2 Fm107 19 rfl).trans ((fr2 Fm98 19 rfl).trans ((fr2 Fm33 19 rfl).trans (fr2 Fm25 19 rfl)))))))]; exact hNK), rfl⟩
          refine Or.inl ⟨_, _, _, _, rfl, ?_⟩
          refine K_nb (st' := []) rfl ?_
          have g136 : (-1) ≤ m130.1 206 ∧ m130.1 206 ≤ 65535 := Tm130.1 206
          replace h131 : (m116.1 206) = (59 : Int) := h131
          replace h132 : (m116.1 213) = 0 := h132
          rewrite [(show (m116.1 213) = (m12.1 213) from ((fr1 Fm116 213 rfl).trans ((fr1 Fm107 213 rfl).trans ((fr1 Fm98 213 rfl).trans ((fr1 Fm33 213 rfl).trans (fr1 Fm25 213 rfl))))))] at h132
          refine T_ld 141 (.ref 178) rfl (fun _ => rfl) ?_
          refine K_gf 144 (.ref 6) rfl rfl kd_178 rfl rfl rfl ?_
          refine T_ld 146 (.int (i32 125)) rfl (fun _ => rfl) ?_
          refine T_callx 149 78 [.ref 6, .int (i32 125)] [] rfl (fun _ => rfl) rfl rfl (c_tx_expect w (mO m130 [] []) c N D (by omega) Tm130 125 ⟨by decide, by decide⟩) (fun rr137 k138 => ?_)
          rcases k138 with ⟨m139, Tm139, Fm139, h140, h141, rfl⟩ | ⟨xx144, m142, hx143, Tm142, Fm142, rfl⟩
          rotate_left
          · skip
            refine Or.inr ⟨_, _, _, _, rfl, ?_⟩
            exact Or.inr ⟨xx144, (mO m142 [] []), (hx143), Tm142, (fr_m (fr_s Fm142 (fr_m (fr_s Fm130 (fr_m (fr_s Fm116 (fr_m (fr_s Fm107 (fr_m (fr_s Fm98 (fr_m (fr_s Fm33 (fr_m (fr_s Fm25 (fr_m (fr_s Fm12 (fr_m (fr_s Fm3 (fr_m fr_0 rfl rfl) rfl rfl) rfl rfl) rfl rfl) rfl rfl) rfl rfl) rfl rfl) rfl rfl) rfl rfl) rfl rfl) rfl rfl) rfl rfl) rfl rfl) rfl rfl) rfl rfl) rfl rfl) rfl rfl) rfl rfl) rfl rfl), (show NKp (m142.2 18) (m142.2 19) by rewrite [(show (m142.2 18) = (m12.2 18) from ((fr2 Fm142 18 rfl).trans ((fr2 Fm130 18 rfl).trans ((fr2 Fm116 18 rfl).trans ((fr2 Fm107 18 rfl).trans ((fr2 Fm98 18 rfl).trans ((fr2 Fm33 18 rfl).trans (fr2 Fm25 18 rfl)))))))), (show (m142.2 19) = (m12.2 19) from ((fr2 Fm142 19 rfl).trans ((fr2 Fm130 19 rfl).trans ((fr2 Fm116 19 rfl).trans ((fr2 Fm107 19 rfl).trans ((fr2 Fm98 19 rfl).trans ((fr2 Fm33 19 rfl).trans (fr2 Fm25 19 rfl))))))))]; exact hNK), rfl⟩
          refine Or.inl ⟨_, _, _, _, rfl, ?_⟩
          refine K_nb (st' := []) rfl ?_
          have g145 : (-1) ≤ m139.1 206 ∧ m139.1 206 ≤ 65535 := Tm139.1 206
          replace h140 : (m130.1 206) = (125 : Int) := h140
          replace h141 : (m130.1 213) = 0 := h141
          rewrite [(show (m130.1 213) = (m12.1 213) from ((fr1 Fm130 213 rfl).trans ((fr1 Fm116 213 rfl).trans ((fr1 Fm107 213 rfl).trans ((fr1 Fm98 213 rfl).trans ((fr1 Fm33 213 rfl).trans (fr1 Fm25 213 rfl)))))))] at h141
          refine T_ret rfl (fun _ => rfl) ?_
          exact Or.inl ⟨(mO m139 [] []), Tm139, (fr_m (fr_s Fm139 (fr_m (fr_s Fm130 (fr_m (fr_s Fm116 (fr_m (fr_s Fm107 (fr_m (fr_s Fm98 (fr_m (fr_s Fm33 (fr_m (fr_s Fm25 (fr_m (fr_s Fm12 (fr_m (fr_s Fm3 (fr_m fr_0 rfl rfl) rfl rfl) rfl rfl) rfl rfl) rfl rfl) rfl rfl) rfl rfl) rfl rfl) rfl rfl) rfl rfl) rfl rfl) rfl rfl) rfl rfl) rfl rfl) rfl rfl) rfl rfl) rfl rfl) rfl rfl) rfl rfl), (show KPp (m139.1 203) (m139.2 8) (m139.2 9) (m.1 214) (m.1 215) (m.1 216) (m.1 217) (m139.1 221) (m.1 223) (m.1 219) by rewrite [(show (m139.1 203) = (m116.1 203) from ((fr1 Fm139 203 rfl).trans (fr1 Fm130 203 rfl))), (show (m139.2 8) = (m116.2 8) from ((fr2 Fm139 8 rfl).trans (fr2 Fm130 8 rfl))), (show (m139.2 9) = (m116.2 9) from ((fr2 Fm139 9 rfl).trans (fr2 Fm130 9 rfl))), (show (m139.1 221) = (m116.1 221) from ((fr1 Fm139 221 rfl).trans (fr1 Fm130 221 rfl)))]; first | (exact pKP) | (exfalso; omega)), (show SSp (m.1 222) (m139.2 36) (m139.1 221) by rewrite [(show (m139.2 36) = (m116.2 36) from ((fr2 Fm139 36 rfl).trans (fr2 Fm130 36 rfl))), (show (m139.1 221) = (m116.1 221) from ((fr1 Fm139 221 rfl).trans (fr1 Fm130 221 rfl)))]; first | (exact hSS) | (exfalso; omega)), (show NKp (m139.2 18) (m139.2 19) by rewrite [(show (m139.2 18) = (m12.2 18) from ((fr2 Fm139 18 rfl).trans ((fr2 Fm130 18 rfl).trans ((fr2 Fm116 18 rfl).trans ((fr2 Fm107 18 rfl).trans ((fr2 Fm98 18 rfl).trans ((fr2 Fm33 18 rfl).trans (fr2 Fm25 18 rfl)))))))), (show (m139.2 19) = (m12.2 19) from ((fr2 Fm139 19 rfl).trans ((fr2 Fm130 19 rfl).trans ((fr2 Fm116 19 rfl).trans ((fr2 Fm107 19 rfl).trans ((fr2 Fm98 19 rfl).trans ((fr2 Fm33 19 rfl).trans (fr2 Fm25 19 rfl))))))))]; first | (exact hNK) | (exfalso; omega)), rfl⟩
        · skip
          refine T_ld 76 (.ref 178) rfl (fun _ => rfl) ?_
          refine T_ld 77 (.int (i32 s)) rfl (fun _ => rfl) ?_
          refine T_ld 78 (.int (i32 v32)) rfl (fun _ => rfl) ?_
          refine T_ld 79 (.ref 178) rfl (fun _ => rfl) ?_
          refine K_gf 82 (.ref 12) rfl rfl kd_178 rfl rfl rfl ?_
          refine K_gf 85 (.ref 22) rfl rfl kd_12 rfl rfl rfl ?_
          refine K_gf 88 (.ref 27) rfl rfl kd_22 rfl rfl rfl ?_
          refine T_ld 89 (.int (i32 ro)) rfl (fun _ => rfl) ?_
          refine K_iald 90 22 (m12.2 22) rfl rfl rfl (by omega) (show ro < (1090 : Int) by omega) (show (m33.2 22) = (m12.2 22) from ((fr2 Fm33 22 rfl).trans (fr2 Fm25 22 rfl))) ?_
          have e146 : 0 ≤ (m12.2 22) ro ∧ (m12.2 22) ro ≤ 64 := (Tm12.2.1 22) ro
          refine T_callx 93 114 [.ref 178, .int (i32 s), .int (i32 v32), .int (i32 ((m12.2 22) ro))] [] rfl (fun _ => rfl) rfl rfl (c_rd_selectCase w (mO m33 [] []) c N D (by omega) Tm33 s v32 ((m12.2 22) ro) (r32 (by omega) (by omega)) (r32 (by omega) (by omega)) (r32 (by omega) (by omega)) (show KPp (m33.1 203) (m33.2 8) (m33.2 9) (m33.1 214) (m33.1 215) (m33.1 216) (m33.1 217) (m33.1 221) (m33.1 223) (m33.1 219) by rewrite [(show (m33.1 214) = (m.1 214) from ((fr1 Fm33 214 rfl).trans ((fr1 Fm25 214 rfl).trans ((fr1 Fm12 214 rfl).trans (fr1 Fm3 214 rfl))))), (show (m33.1 215) = (m.1 215) from ((fr1 Fm33 215 rfl).trans ((fr1 Fm25 215 rfl).trans ((fr1 Fm12 215 rfl).trans (fr1 Fm3 215 rfl))))), (show (m33.1 216) = (m.1 216) from ((fr1 Fm33 216 rfl).trans ((fr1 Fm25 216 rfl).trans ((fr1 Fm12 216 rfl).trans (fr1 Fm3 216 rfl))))), (show (m33.1 217) = (m.1 217) from ((fr1 Fm33 217 rfl).trans ((fr1 Fm25 217 rfl).trans ((fr1 Fm12 217 rfl).trans (fr1 Fm3 217 rfl))))), (show (m33.1 223) = (m.1 223) from ((fr1 Fm33 223 rfl).trans ((fr1 Fm25 223 rfl).trans ((fr1 Fm12 223 rfl).trans (fr1 Fm3 223 rfl))))), (show (m33.1 219) = (m.1 219) from ((fr1 Fm33 219 rfl).trans ((fr1 Fm25 219 rfl).trans ((fr1 Fm12 219 rfl).trans (fr1 Fm3 219 rfl)))))]; exact pKP) (show SSp (m33.1 222) (m33.2 36) (m33.1 221) by rewrite [(show (m33.1 222) = (m.1 222) from ((fr1 Fm33 222 rfl).trans ((fr1 Fm25 222 rfl).trans ((fr1 Fm12 222 rfl).trans (fr1 Fm3 222 rfl)))))]; exact hSS) (show 0 ≤ s ∧ s ≤ 15 by omega) (show 0 ≤ v32 ∧ v32 ≤ 8 by omega)) (fun rr147 k148 => ?_)
          rcases k148 with ⟨m149, Tm149, Fm149, h150, h151, h152, rfl⟩ | ⟨xx155, m153, hx154, Tm153, Fm153, rfl⟩
          rotate_left
          · skip
            refine Or.inr ⟨_, _, _, _, rfl, ?_⟩
            exact Or.inr ⟨xx155, (mO m153 [] []), (hx154), Tm153, (fr_m (fr_s Fm153 (fr_m (fr_s Fm33 (fr_m (fr_s Fm25 (fr_m (fr_s Fm12 (fr_m (fr_s Fm3 (fr_m fr_0 rfl rfl) rfl rfl) rfl rfl) rfl rfl) rfl rfl) rfl rfl) rfl rfl) rfl rfl) rfl rfl) rfl rfl) rfl rfl), (show NKp (m153.2 18) (m153.2 19) by rewrite [(show (m153.2 18) = (m12.2 18) from ((fr2 Fm153 18 rfl).trans ((fr2 Fm33 18 rfl).trans (fr2 Fm25 18 rfl)))), (show (m153.2 19) = (m12.2 19) from ((fr2 Fm153 19 rfl).trans ((fr2 Fm33 19 rfl).trans (fr2 Fm25 19 rfl))))]; exact hNK), rfl⟩
          refine Or.inl ⟨_, _, _, _, rfl, ?_⟩
          refine K_nb (st' := []) rfl ?_
          have g156 : 0 ≤ m149.1 203 ∧ m149.1 203 ≤ 90 := Tm149.1 203
          have g157 : (-1) ≤ m149.1 206 ∧ m149.1 206 ≤ 65535 := Tm149.1 206
          have g158 : 0 ≤ m149.1 221 ∧ m149.1 221 ≤ 16 := Tm149.1 221
          replace h150 : KPp (m149.1 203) (m149.2 8) (m149.2 9) (m33.1 214) (m33.1 215) (m33.1 216) (m33.1 217) (m149.1 221) (m33.1 223) (m33.1 219) := h150
          rewrite [(show (m33.1 214) = (m.1 214) from ((fr1 Fm33 214 rfl).trans ((fr1 Fm25 214 rfl).trans ((fr1 Fm12 214 rfl).trans (fr1 Fm3 214 rfl))))), (show (m33.1 215) = (m.1 215) from ((fr1 Fm33 215 rfl).trans ((fr1 Fm25 215 rfl).trans ((fr1 Fm12 215 rfl).trans (fr1 Fm3 215 rfl))))), (show (m33.1 216) = (m.1 216) from ((fr1 Fm33 216 rfl).trans ((fr1 Fm25 216 rfl).trans ((fr1 Fm12 216 rfl).trans (fr1 Fm3 216 rfl))))), (show (m33.1 217) = (m.1 217) from ((fr1 Fm33 217 rfl).trans ((fr1 Fm25 217 rfl).trans ((fr1 Fm12 217 rfl).trans (fr1 Fm3 217 rfl))))), (show (m33.1 223) = (m.1 223) from ((fr1 Fm33 223 rfl).trans ((fr1 Fm25 223 rfl).trans ((fr1 Fm12 223 rfl).trans (fr1 Fm3 223 rfl))))), (show (m33.1 219) = (m.1 219) from ((fr1 Fm33 219 rfl).trans ((fr1 Fm25 219 rfl).trans ((fr1 Fm12 219 rfl).trans (fr1 Fm3 219 rfl)))))] at h150
          have pKP := h150
          replace h151 : SSp (m33.1 222) (m149.2 36) (m149.1 221) := h151
          rewrite [(show (m33.1 222) = (m.1 222) from ((fr1 Fm33 222 rfl).trans ((fr1 Fm25 222 rfl).trans ((fr1 Fm12 222 rfl).trans (fr1 Fm3 222 rfl)))))] at h151
          have hSS := h151
          replace h152 : (m33.1 221) ≤ (m149.1 221) := h152
          refine T_iinc 96 [(3, .int (i32 (v32 + 1))), (0, .ref 178), (1, .int (i32 s)), (2, .int (i32 ro))] rfl rfl (by decide) rfl rfl ?_
          refine T_goto 56 rfl (fun _ => rfl) ?_
          refine Tm_lv (a := [(0, .ref 178), (1, .int (i32 s)), (2, .int (i32 ro)), (3, .int (i32 (v32 + 1)))]) rfl rfl ⟨rfl, rfl, rfl, rfl, trivial⟩ ?_
          exact ih43 (v32 + 1) (mO m149 [] []) (r32 (by omega) (by omega)) Tm149 (fr_m (fr_s Fm149 (fr_m (fr_s Fm33 (fr_m fr_0 rfl rfl) rfl rfl) rfl rfl) rfl rfl) rfl rfl) (show 0 ≤ (v32 + 1) by omega) (show KPp (m149.1 203) (m149.2 8) (m149.2 9) (m.1 214) (m.1 215) (m.1 216) (m.1 217) (m149.1 221) (m.1 223) (m.1 219) by exact pKP) (show SSp (m.1 222) (m149.2 36) (m149.1 221) by exact hSS) (show 0 ≤ (v32 + 1) ∧ (v32 + 1) ≤ 9 by omega) (show 12 - (v32 + 1) < (n42 : Int) by omega)
  refine Tm_lv (a := [(0, .ref 178), (1, .int (i32 s)), (2, .int (i32 ro)), (3, .int (i32 0))]) rfl rfl ⟨rfl, rfl, rfl, rfl, trivial⟩ ?_
  exact L56_34 ((12 - (0 : Int) : Int) + 1).toNat 0 (mO m25 [] []) ⟨by decide, by decide⟩ Tm25 (fr_m fr_0 rfl rfl) (show 0 ≤ (0 : Int) by omega) (show KPp (m25.1 203) (m25.2 8) (m25.2 9) (m.1 214) (m.1 215) (m.1 216) (m.1 217) (m25.1 221) (m.1 223) (m.1 219) by rewrite [(show (m25.1 203) = (m.1 203) from ((fr1 Fm25 203 rfl).trans ((fr1 Fm12 203 rfl).trans (fr1 Fm3 203 rfl)))), (show (m25.2 8) = (m.2 8) from ((fr2 Fm25 8 rfl).trans ((fr2 Fm12 8 rfl).trans (fr2 Fm3 8 rfl)))), (show (m25.2 9) = (m.2 9) from ((fr2 Fm25 9 rfl).trans ((fr2 Fm12 9 rfl).trans (fr2 Fm3 9 rfl)))), (show (m25.1 221) = (m.1 221) from ((fr1 Fm25 221 rfl).trans ((fr1 Fm12 221 rfl).trans (fr1 Fm3 221 rfl))))]; exact pKP) (show SSp (m.1 222) (m25.2 36) (m25.1 221) by rewrite [(show (m25.2 36) = (m.2 36) from ((fr2 Fm25 36 rfl).trans ((fr2 Fm12 36 rfl).trans (fr2 Fm3 36 rfl)))), (show (m25.1 221) = (m.1 221) from ((fr1 Fm25 221 rfl).trans ((fr1 Fm12 221 rfl).trans (fr1 Fm3 221 rfl))))]; exact hSS) (show 0 ≤ (0 : Int) ∧ (0 : Int) ≤ 9 by omega) (show 12 - (0 : Int) < ((((12 - (0 : Int) : Int) + 1).toNat : Nat) : Int) by omega)
def fF_rd_state : List Nat := [203, 205, 206, 207, 208, 209, 210, 211, 212, 213, 220, 221, 222, 228, 229, 230, 231]
def fA_rd_state : List Nat := [6, 7, 8, 9, 18, 19, 20, 21, 22, 23, 24, 26, 27, 28, 29, 30, 31, 32, 33, 34, 35, 36, 37, 68, 69, 70]
def Q_rd_state (m : mR) (c : Nat → Option am_C) (N : Nat) : ag_Re af_T → Prop := fun R => (∃ (M : mR), KTy M ∧ fr fF_rd_state fA_rd_state m M ∧ (KPp (M.1 203) (M.2 8) (M.2 9) (m.1 214) (m.1 215) (m.1 216) (m.1 217) (M.1 221) (m.1 223) (m.1 219)) ∧ (SSp (M.1 222) (M.2 36) (M.1 221)) ∧ (NKp (M.2 18) (M.2 19)) ∧ R = (.inl (none), (khp M c, N), 0, 0)) ∨ (∃ (x : Nat) (M : mR), (x = 0) ∧ (KTy M) ∧ (fr fF_rd_state fA_rd_state m M) ∧ (NKp (M.2 18) (M.2 19)) ∧ R = (.inr x, (khp M c, N), 1, 6))
set_option maxHeartbeats 3000000 in
theorem c_rd_state (w : wX) (m : mR) (c : Nat → Option am_C) (N D : Nat) (hD : 12 ≤ D) (hT : KTy m) (pKP : KPp (m.1 203) (m.2 8) (m.2 9) (m.1 214) (m.1 215) (m.1 216) (m.1 217) (m.1 221) (m.1 223) (m.1 219)) (hSS : SSp (m.1 222) (m.2 36) (m.1 221)) (hNK : NKp (m.2 18) (m.2 19)) : TC w D 87 [.ref 178] (khp m c, N) (Q_rd_state m c N) := by
  obtain ⟨D, rfl⟩ : ∃ k, D = k + 1 := ⟨D - 1, by omega⟩
  have f203 : 0 ≤ m.1 203 ∧ m.1 203 ≤ 90 := hT.1 203
  have f206 : (-1) ≤ m.1 206 ∧ m.1 206 ≤ 65535 := hT.1 206
  have f207 : 0 ≤ m.1 207 ∧ m.1 207 ≤ 4001 := hT.1 207
  have f213 : 0 ≤ m.1 213 ∧ m.1 213 ≤ 1 := hT.1 213
  have f221 : 0 ≤ m.1 221 ∧ m.1 221 ≤ 16 := hT.1 221
  have f222 : 0 ≤ m.1 222 ∧ m.1 222 ≤ 16 := hT.1 222
  have f214 : 0 ≤ m.1 214 ∧ m.1 214 ≤ 12 := hT.1 214
  have f215 : 0 ≤ m.1 215 ∧ m.1 215 ≤ 12 := hT.1 215
  have f216 : 0 ≤ m.1 216 ∧ m.1 216 ≤ 16 := hT.1 216
  have f217 : 0 ≤ m.1 217 ∧ m.1 217 ≤ 8 := hT.1 217
  have f219 : 0 ≤ m.1 219 ∧ m.1 219 ≤ 8 := hT.1 219
  have f223 : 0 ≤ m.1 223 ∧ m.1 223 ≤ 16 := hT.1 223
  refine Tc_of rfl ?_
  rw [show (khp m c, N) = (khp (mO m [] []) c, N) from by rw [mO_nil m]]
  show TT w D pm_87 (0, [(0, .ref 178)], [], (khp (mO m [] []) c, N), 0, 0) (Q_rd_state m c N)
  refine T_ld 1 (.ref 178) rfl (fun _ => rfl) ?_
  refine K_gf 4 (.ref 6) rfl rfl kd_178 rfl rfl rfl ?_
  refine T_callx 7 50 [.ref 6] [] rfl (fun _ => rfl) rfl rfl (c_tx_advance w (mO m [] []) c N D (by omega) hT ) (fun rr1 k2 => ?_)
  rcases k2 with ⟨m3, Tm3, Fm3, h4, rfl⟩ | ⟨xx7, m5, hx6, Tm5, Fm5, rfl⟩
  rotate_left
  · skip
    refine Or.inr ⟨_, _, _, _, rfl, ?_⟩
    exact Or.inr ⟨xx7, (mO m5 [] []), (hx6), Tm5, (fr_m (fr_s Fm5 (fr_m fr_0 rfl rfl) rfl rfl) rfl rfl), (show NKp (m5.2 18) (m5.2 19) by rewrite [(show (m5.2 18) = (m.2 18) from (fr2 Fm5 18 rfl)), (show (m5.2 19) = (m.2 19) from (fr2 Fm5 19 rfl))]; exact hNK), rfl⟩
  refine Or.inl ⟨_, _, _, _, rfl, ?_⟩
  refine K_nb (st' := []) rfl ?_
  have g8 : (-1) ≤ m3.1 206 ∧ m3.1 206 ≤ 65535 := Tm3.1 206
  have g9 : 0 ≤ m3.1 207 ∧ m3.1 207 ≤ 4001 := Tm3.1 207
  replace h4 : (m.1 213) = 0 := h4
  refine T_ld 8 (.ref 178) rfl (fun _ => rfl) ?_
  refine K_gf 11 (.ref 6) rfl rfl kd_178 rfl rfl rfl ?_
  refine K_gf 14 (.int (i32 (m3.1 207))) rfl rfl kd_6 rfl rfl rfl ?_
  refine T_sto 15 [(1, .int (i32 (m3.1 207))), (0, .ref 178)] rfl (fun _ => rfl) ?_
  have J104_12 : ∀ (v10 : Int) (m11 : mR), (R32 v10) → KTy m11 → fr [203, 205, 206, 207, 208, 209, 210, 211, 212, 221] [6, 7, 8, 9, 26, 29, 30, 35, 36] (mO m3 [] []) m11 → (KPp (m11.1 203) (m11.2 8) (m11.2 9) (m.1 214) (m.1 215) (m.1 216) (m.1 217) (m11.1 221) (m.1 223) (m.1 219)) → (SSp (m.1 222) (m11.2 36) (m11.1 221)) → (0 ≤ v10 ∧ v10 < (m11.1 221)) → ((m11.2 36) v10 = -1) → TT w D pm_87 (104, [(0, .ref 178), (1, .int (i32 (m3.1 207))), (2, .int (i32 v10))], [], (khp (mO m11 [] []) c, N), 0, 0) (Q_rd_state m c N) := by
    intro v10 m11 q17 Tm11 Fm11 ic13 ic14 ic15 ic16
    obtain ⟨q17a, q17b⟩ := id q17
    have q18_203 : 0 ≤ m11.1 203 ∧ m11.1 203 ≤ 90 := Tm11.1 203
    have q18_206 : (-1) ≤ m11.1 206 ∧ m11.1 206 ≤ 65535 := Tm11.1 206
    have q18_207 : 0 ≤ m11.1 207 ∧ m11.1 207 ≤ 4001 := Tm11.1 207
    have q18_221 : 0 ≤ m11.1 221 ∧ m11.1 221 ≤ 16 := Tm11.1 221
    have pKP := ic13
    have hSS := ic14
    have hSm := ic16
    have hSb := SS_b hSS (by omega) (by omega) hSm
    refine T_ld 105 (.ref 178) rfl (fun _ => rfl) ?_
    refine K_gf 108 (.ref 31) rfl rfl kd_178 rfl rfl rfl ?_
    refine T_ld 109 (.int (i32 v10)) rfl (fun _ => rfl) ?_
    refine T_ld 110 (.int (i32 (m3.1 207))) rfl (fun _ => rfl) ?_
    refine T_callx 113 89 [.ref 31, .int (i32 v10), .int (i32 (m3.1 207))] [] rfl (fun _ => rfl) rfl rfl (c_ss_stand w (mO m11 [] []) c N D (by omega) Tm11 v10 (m3.1 207) (r32 (by omega) (by omega)) (r32 (by omega) (by omega)) (show (m11.1 222) ≤ 15 by rewrite [(show (m11.1 222) = (m.1 222) from ((fr1 Fm11 222 rfl).trans (fr1 Fm3 222 rfl)))]; omega) (show 0 ≤ v10 ∧ v10 ≤ 15 by omega) (show 0 ≤ (m3.1 207) ∧ (m3.1 207) ≤ 4001 by omega)) (fun rr21 k22 => ?_)
    obtain ⟨m23, Tm23, Fm23, h24, h25, rfl⟩ := k22
    refine Or.inl ⟨_, _, _, _, rfl, ?_⟩
    refine K_nb (st' := []) rfl ?_
    have g26 : 0 ≤ m23.1 222 ∧ m23.1 222 ≤ 16 := Tm23.1 222
    replace h24 : (m23.1 222) = (m11.1 222) + 1 := h24
    rewrite [(show (m11.1 222) = (m.1 222) from ((fr1 Fm11 222 rfl).trans (fr1 Fm3 222 rfl)))] at h24
    replace h25 : (m23.2 36) = upI (m11.2 36) v10 (m3.1 207) := h25
    have hSt := h25
    have hSS : SSp (m23.1 222) (m23.2 36) (m11.1 221) := SS_st hSS (by omega) (by omega) hSm (by omega) hSt (by omega)
    refine T_ld 114 (.ref 178) rfl (fun _ => rfl) ?_
    refine K_gf 117 (.ref 6) rfl rfl kd_178 rfl rfl rfl ?_
    refine T_ld 119 (.int (i32 123)) rfl (fun _ => rfl) ?_
    refine T_callx 122 78 [.ref 6, .int (i32 123)] [] rfl (fun _ => rfl) rfl rfl (c_tx_expect w (mO m23 [] []) c N D (by omega) Tm23 123 ⟨by decide, by decide⟩) (fun rr27 k28 => ?_)
    rcases k28 with ⟨m29, Tm29, Fm29, h30, h31, rfl⟩ | ⟨xx34, m32, hx33, Tm32, Fm32, rfl⟩
    rotate_left
    · skip
      refine Or.inr ⟨_, _, _, _, rfl, ?_⟩
      exact Or.inr ⟨xx34, (mO m32 [] []), (hx33), Tm32, (fr_m (fr_s Fm32 (fr_m (fr_s Fm23 (fr_m (fr_s Fm11 (fr_m (fr_s Fm3 (fr_m fr_0 rfl rfl) rfl rfl) rfl rfl) rfl rfl) rfl rfl) rfl rfl) rfl rfl) rfl rfl) rfl rfl), (show NKp (m32.2 18) (m32.2 19) by rewrite [(show (m32.2 18) = (m.2 18) from ((fr2 Fm32 18 rfl).trans ((fr2 Fm23 18 rfl).trans ((fr2 Fm11 18 rfl).trans (fr2 Fm3 18 rfl))))), (show (m32.2 19) = (m.2 19) from ((fr2 Fm32 19 rfl).trans ((fr2 Fm23 19 rfl).trans ((fr2 Fm11 19 rfl).trans (fr2 Fm3 19 rfl)))))]; exact hNK), rfl⟩
    refine Or.inl ⟨_, _, _, _, rfl, ?_⟩
    refine K_nb (st' := []) rfl ?_
    have g35 : (-1) ≤ m29.1 206 ∧ m29.1 206 ≤ 65535 := Tm29.1 206
    have g36 : 0 ≤ m29.1 207 ∧ m29.1 207 ≤ 4001 := Tm29.1 207
    replace h30 : (m23.1 206) = (123 : Int) := h30
    rewrite [(show (m23.1 206) = (m11.1 206) from (fr1 Fm23 206 rfl))] at h30
    replace h31 : (m23.1 213) = 0 := h31
    rewrite [(show (m23.1 213) = (m.1 213) from ((fr1 Fm23 213 rfl).trans ((fr1 Fm11 213 rfl).trans (fr1 Fm3 213 rfl))))] at h31
    refine T_ld 123 (.int (i32 0)) rfl (fun _ => rfl) ?_
    refine T_sto 124 [(3, .int (i32 0)), (0, .ref 178), (1, .int (i32 (m3.1 207))), (2, .int (i32 v10))] rfl (fun _ => rfl) ?_
    have L124_39 : ∀ (n45 : Nat) (v37 : Int) (m38 : mR), (R32 v37) → KTy m38 → fr [205, 206, 207, 208, 209, 210, 211, 212] [26, 27] (mO m29 [] []) m38 → (0 ≤ v37) → (0 ≤ v37 ∧ v37 ≤ 7) → 12 - v37 < (n45 : Int) → TT w D pm_87 (124, [(0, .ref 178), (2, .int (i32 v10)), (3, .int (i32 v37))], [], (khp (mO m38 [] []) c, N), 0, 0) (Q_rd_state m c N) := by
      intro n45
      induction n45 with
      | zero =>
        intro v37 m38 q42 Tm38 Fm38 ic40 ic41 hmu
        obtain ⟨q42a, q42b⟩ := id q42
        have q43_206 : (-1) ≤ m38.1 206 ∧ m38.1 206 ≤ 65535 := Tm38.1 206
        have q43_207 : 0 ≤ m38.1 207 ∧ m38.1 207 ≤ 4001 := Tm38.1 207
        exfalso
        omega
      | succ n45 ih =>
        intro v37 m38 q42 Tm38 Fm38 ic40 ic41 hmu
        obtain ⟨q42a, q42b⟩ := id q42
        have q43_206 : (-1) ≤ m38.1 206 ∧ m38.1 206 ≤ 65535 := Tm38.1 206
        have q43_207 : 0 ≤ m38.1 207 ∧ m38.1 207 ≤ 4001 := Tm38.1 207
        have ih46 := ih
        refine T_ld 125 (.int (i32 v37)) rfl (fun _ => rfl) ?_
        refine T_ld 127 (.int (i32 6)) rfl (fun _ => rfl) ?_
        refine T_icmp 155 130 rfl rfl rfl (r32 (by omega) (by omega)) ⟨by decide, by decide⟩ (fun (h47 : (6 : Int) < v37) => ?_) (fun (h47 : ¬ ((6 : Int) < v37)) => ?_)
        · skip
          refine T_ld 156 (.ref 178) rfl (fun _ => rfl) ?_
          refine K_gf 159 (.ref 6) rfl rfl kd_178 rfl rfl rfl ?_
          refine K_gf 162 (.int (i32 (m38.1 206))) rfl rfl kd_6 rfl rfl rfl ?_
          refine T_ld 165 (.int (i32 307)) rfl (fun _ => rfl) ?_
          refine T_icmp 176 168 rfl rfl rfl (r32 (by omega) (by omega)) ⟨by decide, by decide⟩ (fun (h48 : (m38.1 206) ≠ 307) => ?_) (fun (h48 : ¬ ((m38.1 206) ≠ 307)) => ?_)
          · skip
            refine T_ld 177 (.ref 178) rfl (fun _ => rfl) ?_
            refine K_gf 180 (.ref 6) rfl rfl kd_178 rfl rfl rfl ?_
            refine T_ld 183 (.int (i32 306)) rfl (fun _ => rfl) ?_
            refine T_callx 186 78 [.ref 6, .int (i32 306)] [] rfl (fun _ => rfl) rfl rfl (c_tx_expect w (mO m38 [] []) c N D (by omega) Tm38 306 ⟨by decide, by decide⟩) (fun rr49 k50 => ?_)
            rcases k50 with ⟨m51, Tm51, Fm51, h52, h53, rfl⟩ | ⟨xx56, m54, hx55, Tm54, Fm54, rfl⟩
            rotate_left
            · skip
              refine Or.inr ⟨_, _, _, _, rfl, ?_⟩
              exact Or.inr ⟨xx56, (mO m54 [] []), (hx55), Tm54, (fr_m (fr_s Fm54 (fr_m (fr_s Fm38 (fr_m (fr_s Fm29 (fr_m (fr_s Fm23 (fr_m (fr_s Fm11 (fr_m (fr_s Fm3 (fr_m fr_0 rfl rfl) rfl rfl) rfl rfl) rfl rfl) rfl rfl) rfl rfl) rfl rfl) rfl rfl) rfl rfl) rfl rfl) rfl rfl) rfl rfl) rfl rfl), (show NKp (m54.2 18) (m54.2 19) by rewrite [(show (m54.2 18) = (m.2 18) from ((fr2 Fm54 18 rfl).trans ((fr2 Fm38 18 rfl).trans ((fr2 Fm29 18 rfl).trans ((fr2 Fm23 18 rfl).trans ((fr2 Fm11 18 rfl).trans (fr2 Fm3 18 rfl))))))), (show (m54.2 19) = (m.2 19) from ((fr2 Fm54 19 rfl).trans ((fr2 Fm38 19 rfl).trans ((fr2 Fm29 19 rfl).trans ((fr2 Fm23 19 rfl).trans ((fr2 Fm11 19 rfl).trans (fr2 Fm3 19 rfl)))))))]; exact hNK), rfl⟩
            refine Or.inl ⟨_, _, _, _, rfl, ?_⟩
            refine K_nb (st' := []) rfl ?_
            have g57 : (-1) ≤ m51.1 206 ∧ m51.1 206 ≤ 65535 := Tm51.1 206
            have g58 : 0 ≤ m51.1 207 ∧ m51.1 207 ≤ 4001 := Tm51.1 207
            replace h52 : (m38.1 206) = (306 : Int) := h52
            replace h53 : (m38.1 213) = 0 := h53
            rewrite [(show (m38.1 213) = (m.1 213) from ((fr1 Fm38 213 rfl).trans ((fr1 Fm29 213 rfl).trans ((fr1 Fm23 213 rfl).trans ((fr1 Fm11 213 rfl).trans (fr1 Fm3 213 rfl))))))] at h53
            refine T_ld 187 (.ref 178) rfl (fun _ => rfl) ?_
            refine K_gf 190 (.ref 31) rfl rfl kd_178 rfl rfl rfl ?_
            refine K_gf 193 (.ref 40) rfl rfl kd_31 rfl rfl rfl ?_
            refine T_ld 194 (.int (i32 v10)) rfl (fun _ => rfl) ?_
            refine T_ld 195 (.ref 178) rfl (fun _ => rfl) ?_
            refine T_callx 198 117 [.ref 178] [.int (i32 v10), .ref 40] rfl (fun _ => rfl) rfl rfl (c_rd_goal w (mO m51 [] []) c N D (by omega) Tm51 (show KPp (m51.1 203) (m51.2 8) (m51.2 9) (m51.1 214) (m51.1 215) (m51.1 216) (m51.1 217) (m51.1 221) (m51.1 223) (m51.1 219) by rewrite [(show (m51.1 203) = (m11.1 203) from ((fr1 Fm51 203 rfl).trans ((fr1 Fm38 203 rfl).trans ((fr1 Fm29 203 rfl).trans (fr1 Fm23 203 rfl))))), (show (m51.2 8) = (m11.2 8) from ((fr2 Fm51 8 rfl).trans ((fr2 Fm38 8 rfl).trans ((fr2 Fm29 8 rfl).trans (fr2 Fm23 8 rfl))))), (show (m51.2 9) = (m11.2 9) from ((fr2 Fm51 9 rfl).trans ((fr2 Fm38 9 rfl).trans ((fr2 Fm29 9 rfl).trans (fr2 Fm23 9 rfl))))), (show (m51.1 214) = (m.1 214) from ((fr1 Fm51 214 rfl).trans ((fr1 Fm38 214 rfl).trans ((fr1 Fm29 214 rfl).trans ((fr1 Fm23 214 rfl).trans ((fr1 Fm11 214 rfl).trans (fr1 Fm3 214 rfl))))))), (show (m51.1 215) = (m.1 215) from ((fr1 Fm51 215 rfl).trans ((fr1 Fm38 215 rfl).trans ((fr1 Fm29 215 rfl).trans ((fr1 Fm23 215 rfl).trans ((fr1 Fm11 215 rfl).trans (fr1 Fm3 215 rfl))))))), (show (m51.1 216) = (m.1 216) from ((fr1 Fm51 216 rfl).trans ((fr1 Fm38 216 rfl).trans ((fr1 Fm29 216 rfl).trans ((fr1 Fm23 216 rfl).trans ((fr1 Fm11 216 rfl).trans (fr1 Fm3 216 rfl))))))), (show (m51.1 217) = (m.1 217) from ((fr1 Fm51 217 rfl).trans ((fr1 Fm38 217 rfl).trans ((fr1 Fm29 217 rfl).trans ((fr1 Fm23 217 rfl).trans ((fr1 Fm11 217 rfl).trans (fr1 Fm3 217 rfl))))))), (show (m51.1 221) = (m11.1 221) from ((fr1 Fm51 221 rfl).trans ((fr1 Fm38 221 rfl).trans ((fr1 Fm29 221 rfl).trans (fr1 Fm23 221 rfl))))), (show (m51.1 223) = (m.1 223) from ((fr1 Fm51 223 rfl).trans ((fr1 Fm38 223 rfl).trans ((fr1 Fm29 223 rfl).trans ((fr1 Fm23 223 rfl).trans ((fr1 Fm11 223 rfl).trans (fr1 Fm3 223 rfl))))))), (show (m51.1 219) = (m.1 219) from ((fr1 Fm51 219 rfl).trans ((fr1 Fm38 219 rfl).trans ((fr1 Fm29 219 rfl).trans ((fr1 Fm23 219 rfl).trans ((fr1 Fm11 219 rfl).trans (fr1 Fm3 219 rfl)))))))]; exact pKP) (show SSp (m51.1 222) (m51.2 36) (m51.1 221) by rewrite [(show (m51.1 222) = (m23.1 222) from ((fr1 Fm51 222 rfl).trans ((fr1 Fm38 222 rfl).trans (fr1 Fm29 222 rfl)))), (show (m51.2 36) = (m23.2 36) from ((fr2 Fm51 36 rfl).trans ((fr2 Fm38 36 rfl).trans (fr2 Fm29 36 rfl)))), (show (m51.1 221) = (m11.1 221) from ((fr1 Fm51 221 rfl).trans ((fr1 Fm38 221 rfl).trans ((fr1 Fm29 221 rfl).trans (fr1 Fm23 221 rfl)))))]; exact hSS)) (fun rr59 k60 => ?_)
            rcases k60 with ⟨m61, go, Tm61, Fm61, g62, h63, h64, h65, rfl⟩ | ⟨xx68, m66, hx67, Tm66, Fm66, rfl⟩
            rotate_left
            · skip
              refine Or.inr ⟨_, _, _, _, rfl, ?_⟩
              exact Or.inr ⟨xx68, (mO m66 [] []), (hx67), Tm66, (fr_m (fr_s Fm66 (fr_m (fr_s Fm51 (fr_m (fr_s Fm38 (fr_m (fr_s Fm29 (fr_m (fr_s Fm23 (fr_m (fr_s Fm11 (fr_m (fr_s Fm3 (fr_m fr_0 rfl rfl) rfl rfl) rfl rfl) rfl rfl) rfl rfl) rfl rfl) rfl rfl) rfl rfl) rfl rfl) rfl rfl) rfl rfl) rfl rfl) rfl rfl) rfl rfl) rfl rfl), (show NKp (m66.2 18) (m66.2 19) by rewrite [(show (m66.2 18) = (m.2 18) from ((fr2 Fm66 18 rfl).trans ((fr2 Fm51 18 rfl).trans ((fr2 Fm38 18 rfl).trans ((fr2 Fm29 18 rfl).trans ((fr2 Fm23 18 rfl).trans ((fr2 Fm11 18 rfl).trans (fr2 Fm3 18 rfl)))))))), (show (m66.2 19) = (m.2 19) from ((fr2 Fm66 19 rfl).trans ((fr2 Fm51 19 rfl).trans ((fr2 Fm38 19 rfl).trans ((fr2 Fm29 19 rfl).trans ((fr2 Fm23 19 rfl).trans ((fr2 Fm11 19 rfl).trans (fr2 Fm3 19 rfl))))))))]; exact hNK), rfl⟩
            refine Or.inl ⟨_, _, _, _, rfl, ?_⟩
            refine K_nb (st' := [.int (i32 go), .int (i32 v10), .ref 40]) rfl ?_
            obtain ⟨g62a, g62b⟩ := g62
            have g69 : 0 ≤ m61.1 203 ∧ m61.1 203 ≤ 90 := Tm61.1 203
            have g70 : (-1) ≤ m61.1 206 ∧ m61.1 206 ≤ 65535 := Tm61.1 206
            have g71 : 0 ≤ m61.1 207 ∧ m61.1 207 ≤ 4001 := Tm61.1 207
            have g72 : 0 ≤ m61.1 221 ∧ m61.1 221 ≤ 16 := Tm61.1 221
            replace h63 : KPp (m61.1 203) (m61.2 8) (m61.2 9) (m51.1 214) (m51.1 215) (m51.1 216) (m51.1 217) (m61.1 221) (m51.1 223) (m51.1 219) := h63
            rewrite [(show (m51.1 214) = (m.1 214) from ((fr1 Fm51 214 rfl).trans ((fr1 Fm38 214 rfl).trans ((fr1 Fm29 214 rfl).trans ((fr1 Fm23 214 rfl).trans ((fr1 Fm11 214 rfl).trans (fr1 Fm3 214 rfl))))))), (show (m51.1 215) = (m.1 215) from ((fr1 Fm51 215 rfl).trans ((fr1 Fm38 215 rfl).trans ((fr1 Fm29 215 rfl).trans ((fr1 Fm23 215 rfl).trans ((fr1 Fm11 215 rfl).trans (fr1 Fm3 215 rfl))))))), (show (m51.1 216) = (m.1 216) from ((fr1 Fm51 216 rfl).trans ((fr1 Fm38 216 rfl).trans ((fr1 Fm29 216 rfl).trans ((fr1 Fm23 216 rfl).trans ((fr1 Fm11 216 rfl).trans (fr1 Fm3 216 rfl))))))), (show (m51.1 217) = (m.1 217) from ((fr1 Fm51 217 rfl).trans ((fr1 Fm38 217 rfl).trans ((fr1 Fm29 217 rfl).trans ((fr1 Fm23 217 rfl).trans ((fr1 Fm11 217 rfl).trans (fr1 Fm3 217 rfl))))))), (show (m51.1 223) = (m.1 223) from ((fr1 Fm51 223 rfl).trans ((fr1 Fm38 223 rfl).trans ((fr1 Fm29 223 rfl).trans ((fr1 Fm23 223 rfl).trans ((fr1 Fm11 223 rfl).trans (fr1 Fm3 223 rfl))))))), (show (m51.1 219) = (m.1 219) from ((fr1 Fm51 219 rfl).trans ((fr1 Fm38 219 rfl).trans ((fr1 Fm29 219 rfl).trans ((fr1 Fm23 219 rfl).trans ((fr1 Fm11 219 rfl).trans (fr1 Fm3 219 rfl)))))))] at h63
            have pKP := h63
            replace h64 : SSp (m51.1 222) (m61.2 36) (m61.1 221) := h64
            rewrite [(show (m51.1 222) = (m23.1 222) from ((fr1 Fm51 222 rfl).trans ((fr1 Fm38 222 rfl).trans (fr1 Fm29 222 rfl))))] at h64
            have hSS := h64
            replace h65 : (m51.1 221) ≤ (m61.1 221) := h65
            rewrite [(show (m51.1 221) = (m11.1 221) from ((fr1 Fm51 221 rfl).trans ((fr1 Fm38 221 rfl).trans ((fr1 Fm29 221 rfl).trans (fr1 Fm23 221 rfl)))))] at h65
            have G73 : ∀ j, 0 ≤ (upI (m.2 34) v10 go) j ∧ (upI (m.2 34) v10 go) j ≤ 17 := upI_rg (hT.2.1 34) ⟨by omega, by omega⟩
            refine K_iast (a' := [(34, upI (m.2 34) v10 go)]) 199 34 (m.2 34) rfl rfl rfl (by omega) (show v10 < (16 : Int) by omega) (show (m61.2 34) = (m.2 34) from ((fr2 Fm61 34 rfl).trans ((fr2 Fm51 34 rfl).trans ((fr2 Fm38 34 rfl).trans ((fr2 Fm29 34 rfl).trans ((fr2 Fm23 34 rfl).trans ((fr2 Fm11 34 rfl).trans (fr2 Fm3 34 rfl)))))))) rfl ?_
            refine T_ld 200 (.ref 178) rfl (fun _ => rfl) ?_
            refine K_gf 203 (.ref 6) rfl rfl kd_178 rfl rfl rfl ?_
            refine T_ld 205 (.int (i32 59)) rfl (fun _ => rfl) ?_
            refine T_callx 208 78 [.ref 6, .int (i32 59)] [] rfl (fun _ => rfl) rfl rfl (c_tx_expect w (mO m61 [] [(34, upI (m.2 34) v10 go)]) c N D (by omega) (KTy_mO Tm61 rfl rfl trivial ⟨G73, trivial⟩) 59 ⟨by decide, by decide⟩) (fun rr74 k75 => ?_)
            rcases k75 with ⟨m76, Tm76, Fm76, h77, h78, rfl⟩ | ⟨xx81, m79, hx80, Tm79, Fm79, rfl⟩
            rotate_left
            · skip
              refine Or.inr ⟨_, _, _, _, rfl, ?_⟩
              exact Or.inr ⟨xx81, (mO m79 [] []), (hx80), Tm79, (fr_m (fr_s Fm79 (fr_m (fr_s Fm61 (fr_m (fr_s Fm51 (fr_m (fr_s Fm38 (fr_m (fr_s Fm29 (fr_m (fr_s Fm23 (fr_m (fr_s Fm11 (fr_m (fr_s Fm3 (fr_m fr_0 rfl rfl) rfl rfl) rfl rfl) rfl rfl) rfl rfl) rfl rfl) rfl rfl) rfl rfl) rfl rfl) rfl rfl) rfl rfl) rfl rfl) rfl rfl) rfl rfl) rfl rfl) rfl rfl) rfl rfl), (show NKp (m79.2 18) (m79.2 19) by rewrite [(show (m79.2 18) = (m.2 18) from ((fr2 Fm79 18 rfl).trans ((fr2 Fm61 18 rfl).trans ((fr2 Fm51 18 rfl).trans ((fr2 Fm38 18 rfl).trans ((fr2 Fm29 18 rfl).trans ((fr2 Fm23 18 rfl).trans ((fr2 Fm11 18 rfl).trans (fr2 Fm3 18 rfl))))))))), (show (m79.2 19) = (m.2 19) from ((fr2 Fm79 19 rfl).trans ((fr2 Fm61 19 rfl).trans ((fr2 Fm51 19 rfl).trans ((fr2 Fm38 19 rfl).trans ((fr2 Fm29 19 rfl).trans ((fr2 Fm23 19 rfl).trans ((fr2 Fm11 19 rfl).trans (fr2 Fm3 19 rfl)))))))))]; exact hNK), rfl⟩
            refine Or.inl ⟨_, _, _, _, rfl, ?_⟩
            refine K_nb (st' := []) rfl ?_
            have g82 : (-1) ≤ m76.1 206 ∧ m76.1 206 ≤ 65535 := Tm76.1 206
            have g83 : 0 ≤ m76.1 207 ∧ m76.1 207 ≤ 4001 := Tm76.1 207
            replace h77 : (m61.1 206) = (59 : Int) := h77
            replace h78 : (m61.1 213) = 0 := h78
            rewrite [(show (m61.1 213) = (m.1 213) from ((fr1 Fm61 213 rfl).trans ((fr1 Fm51 213 rfl).trans ((fr1 Fm38 213 rfl).trans ((fr1 Fm29 213 rfl).trans ((fr1 Fm23 213 rfl).trans ((fr1 Fm11 213 rfl).trans (fr1 Fm3 213 rfl))))))))] at h78
            refine T_ld 209 (.ref 178) rfl (fun _ => rfl) ?_
            refine K_gf 212 (.ref 6) rfl rfl kd_178 rfl rfl rfl ?_
            refine T_ld 214 (.int (i32 125)) rfl (fun _ => rfl) ?_
            refine T_callx 217 78 [.ref 6, .int (i32 125)] [] rfl (fun _ => rfl) rfl rfl (c_tx_expect w (mO m76 [] []) c N D (by omega) Tm76 125 ⟨by decide, by decide⟩) (fun rr84 k85 => ?_)
            rcases k85 with ⟨m86, Tm86, Fm86, h87, h88, rfl⟩ | ⟨xx91, m89, hx90, Tm89, Fm89, rfl⟩
            rotate_left
            · skip
              refine Or.inr ⟨_, _, _, _, rfl, ?_⟩
              exact Or.inr ⟨xx91, (mO m89 [] []), (hx90), Tm89, (fr_m (fr_s Fm89 (fr_m (fr_s Fm76 (fr_m (fr_s Fm61 (fr_m (fr_s Fm51 (fr_m (fr_s Fm38 (fr_m (fr_s Fm29 (fr_m (fr_s Fm23 (fr_m (fr_s Fm11 (fr_m (fr_s Fm3 (fr_m fr_0 rfl rfl) rfl rfl) rfl rfl) rfl rfl) rfl rfl) rfl rfl) rfl rfl) rfl rfl) rfl rfl) rfl rfl) rfl rfl) rfl rfl) rfl rfl) rfl rfl) rfl rfl) rfl rfl) rfl rfl) rfl rfl) rfl rfl), (show NKp (m89.2 18) (m89.2 19) by rewrite [(show (m89.2 18) = (m.2 18) from ((fr2 Fm89 18 rfl).trans ((fr2 Fm76 18 rfl).trans ((fr2 Fm61 18 rfl).trans ((fr2 Fm51 18 rfl).trans ((fr2 Fm38 18 rfl).trans ((fr2 Fm29 18 rfl).trans ((fr2 Fm23 18 rfl).trans ((fr2 Fm11 18 rfl).trans (fr2 Fm3 18 rfl)))))))))), (show (m89.2 19) = (m.2 19) from ((fr2 Fm89 19 rfl).trans ((fr2 Fm76 19 rfl).trans ((fr2 Fm61 19 rfl).trans ((fr2 Fm51 19 rfl).trans ((fr2 Fm38 19 rfl).trans ((fr2 Fm29 19 rfl).trans ((fr2 Fm23 19 rfl).trans ((fr2 Fm11 19 rfl).trans (fr2 Fm3 19 rfl))))))))))]; exact hNK), rfl⟩
            refine Or.inl ⟨_, _, _, _, rfl, ?_⟩
            refine K_nb (st' := []) rfl ?_
            have g92 : (-1) ≤ m86.1 206 ∧ m86.1 206 ≤ 65535 := Tm86.1 206
            have g93 : 0 ≤ m86.1 207 ∧ m86.1 207 ≤ 4001 := Tm86.1 207
            replace h87 : (m76.1 206) = (125 : Int) := h87
            replace h88 : (m76.1 213) = 0 := h88
            rewrite [(show (m76.1 213) = (m.1 213) from ((fr1 Fm76 213 rfl).trans ((fr1 Fm61 213 rfl).trans ((fr1 Fm51 213 rfl).trans ((fr1 Fm38 213 rfl).trans ((fr1 Fm29 213 rfl).trans ((fr1 Fm23 213 rfl).trans ((fr1 Fm11 213 rfl).trans (fr1 Fm3 213 rfl)))))))))] at h88
            refine T_ret rfl (fun _ => rfl) ?_
            exact Or.inl ⟨(mO m86 [] []), Tm86, (fr_m (fr_s Fm86 (fr_m (fr_s Fm76 (fr_m (fr_s Fm61 (fr_m (fr_s Fm51 (fr_m (fr_s Fm38 (fr_m (fr_s Fm29 (fr_m (fr_s Fm23 (fr_m (fr_s Fm11 (fr_m (fr_s Fm3 (fr_m fr_0 rfl rfl) rfl rfl) rfl rfl) rfl rfl) rfl rfl) rfl rfl) rfl rfl) rfl rfl) rfl rfl) rfl rfl) rfl rfl) rfl rfl) rfl rfl) rfl rfl) rfl rfl) rfl rfl) rfl rfl) rfl rfl) rfl rfl), (show KPp (m86.1 203) (m86.2 8) (m86.2 9) (m.1 214) (m.1 215) (m.1 216) (m.1 217) (m86.1 221) (m.1 223) (m.1 219) by rewrite [(show (m86.1 203) = (m61.1 203) from ((fr1 Fm86 203 rfl).trans (fr1 Fm76 203 rfl))), (show (m86.2 8) = (m61.2 8) from ((fr2 Fm86 8 rfl).trans (fr2 Fm76 8 rfl))), (show (m86.2 9) = (m61.2 9) from ((fr2 Fm86 9 rfl).trans (fr2 Fm76 9 rfl))), (show (m86.1 221) = (m61.1 221) from ((fr1 Fm86 221 rfl).trans (fr1 Fm76 221 rfl)))]; first | (exact pKP) | (exfalso; omega)), (show SSp (m86.1 222) (m86.2 36) (m86.1 221) by rewrite [(show (m86.1 222) = (m23.1 222) from ((fr1 Fm86 222 rfl).trans ((fr1 Fm76 222 rfl).trans ((fr1 Fm61 222 rfl).trans ((fr1 Fm51 222 rfl).trans ((fr1 Fm38 222 rfl).trans (fr1 Fm29 222 rfl))))))), (show (m86.2 36) = (m61.2 36) from ((fr2 Fm86 36 rfl).trans (fr2 Fm76 36 rfl))), (show (m86.1 221) = (m61.1 221) from ((fr1 Fm86 221 rfl).trans (fr1 Fm76 221 rfl)))]; first | (exact hSS) | (exfalso; omega)), (show NKp (m86.2 18) (m86.2 19) by rewrite [(show (m86.2 18) = (m.2 18) from ((fr2 Fm86 18 rfl).trans ((fr2 Fm76 18 rfl).trans ((fr2 Fm61 18 rfl).trans ((fr2 Fm51 18 rfl).trans ((fr2 Fm38 18 rfl).trans ((fr2 Fm29 18 rfl).trans ((fr2 Fm23 18 rfl).trans ((fr2 Fm11 18 rfl).trans (fr2 Fm3 18 rfl)))))))))), (show (m86.2 19) = (m.2 19) from ((fr2 Fm86 19 rfl).trans ((fr2 Fm76 19 rfl).trans ((fr2 Fm61 19 rfl).trans ((fr2 Fm51 19 rfl).trans ((fr2 Fm38 19 rfl).trans ((fr2 Fm29 19 rfl).trans ((fr2 Fm23 19 rfl).trans ((fr2 Fm11 19 rfl).trans (fr2 Fm3 19 rfl))))))))))]; first | (exact hNK) | (exfalso; omega)), rfl⟩
          · skip
            refine T_ld 169 (.ref 178) rfl (fun _ => rfl) ?_
            refine T_ld 170 (.int (i32 v10)) rfl (fun _ => rfl) ?_
            refine T_callx 173 91 [.ref 178, .int (i32 v10)] [] rfl (fun _ => rfl) rfl rfl (c_rd_select w (mO m38 [] []) c N D (by omega) Tm38 v10 (r32 (by omega) (by omega)) (show KPp (m38.1 203) (m38.2 8) (m38.2 9) (m38.1 214) (m38.1 215) (m38.1 216) (m38.1 217) (m38.1 221) (m38.1 223) (m38.1 219) by rewrite [(show (m38.1 203) = (m11.1 203) from ((fr1 Fm38 203 rfl).trans ((fr1 Fm29 203 rfl).trans (fr1 Fm23 203 rfl)))), (show (m38.2 8) = (m11.2 8) from ((fr2 Fm38 8 rfl).trans ((fr2 Fm29 8 rfl).trans (fr2 Fm23 8 rfl)))), (show (m38.2 9) = (m11.2 9) from ((fr2 Fm38 9 rfl).trans ((fr2 Fm29 9 rfl).trans (fr2 Fm23 9 rfl)))), (show (m38.1 214) = (m.1 214) from ((fr1 Fm38 214 rfl).trans ((fr1 Fm29 214 rfl).trans ((fr1 Fm23 214 rfl).trans ((fr1 Fm11 214 rfl).trans (fr1 Fm3 214 rfl)))))), (show (m38.1 215) = (m.1 215) from ((fr1 Fm38 215 rfl).trans ((fr1 Fm29 215 rfl).trans ((fr1 Fm23 215 rfl).trans ((fr1 Fm11 215 rfl).trans (fr1 Fm3 215 rfl)))))), (show (m38.1 216) = (m.1 216) from ((fr1 Fm38 216 rfl).trans ((fr1 Fm29 216 rfl).trans ((fr1 Fm23 216 rfl).trans ((fr1 Fm11 216 rfl).trans (fr1 Fm3 216 rfl)))))), (show (m38.1 217) = (m.1 217) from ((fr1 Fm38 217 rfl).trans ((fr1 Fm29 217 rfl).trans ((fr1 Fm23 217 rfl).trans ((fr1 Fm11 217 rfl).trans (fr1 Fm3 217 rfl)))))), (show (m38.1 221) = (m11.1 221) from ((fr1 Fm38 221 rfl).trans ((fr1 Fm29 221 rfl).trans (fr1 Fm23 221 rfl)))), (show (m38.1 223) = (m.1 223) from ((fr1 Fm38 223 rfl).trans ((fr1 Fm29 223 rfl).trans ((fr1 Fm23 223 rfl).trans ((fr1 Fm11 223 rfl).trans (fr1 Fm3 223 rfl)))))), (show (m38.1 219) = (m.1 219) from ((fr1 Fm38 219 rfl).trans ((fr1 Fm29 219 rfl).trans ((fr1 Fm23 219 rfl).trans ((fr1 Fm11 219 rfl).trans (fr1 Fm3 219 rfl))))))]; exact pKP) (show SSp (m38.1 222) (m38.2 36) (m38.1 221) by rewrite [(show (m38.1 222) = (m23.1 222) from ((fr1 Fm38 222 rfl).trans (fr1 Fm29 222 rfl))), (show (m38.2 36) = (m23.2 36) from ((fr2 Fm38 36 rfl).trans (fr2 Fm29 36 rfl))), (show (m38.1 221) = (m11.1 221) from ((fr1 Fm38 221 rfl).trans ((fr1 Fm29 221 rfl).trans (fr1 Fm23 221 rfl))))]; exact hSS) (show NKp (m38.2 18) (m38.2 19) by rewrite [(show (m38.2 18) = (m.2 18) from ((fr2 Fm38 18 rfl).trans ((fr2 Fm29 18 rfl).trans ((fr2 Fm23 18 rfl).trans ((fr2 Fm11 18 rfl).trans (fr2 Fm3 18 rfl)))))), (show (m38.2 19) = (m.2 19) from ((fr2 Fm38 19 rfl).trans ((fr2 Fm29 19 rfl).trans ((fr2 Fm23 19 rfl).trans ((fr2 Fm11 19 rfl).trans (fr2 Fm3 19 rfl))))))]; exact hNK) (show 0 ≤ v10 ∧ v10 ≤ 15 by omega)) (fun rr94 k95 => ?_)
            rcases k95 with ⟨m96, Tm96, Fm96, h97, h98, h99, rfl⟩ | ⟨xx103, m100, hx101, Tm100, Fm100, h102, rfl⟩
            rotate_left
            · skip
              refine Or.inr ⟨_, _, _, _, rfl, ?_⟩
              have hNK := h102
              exact Or.inr ⟨xx103, (mO m100 [] []), (hx101), Tm100, (fr_m (fr_s Fm100 (fr_m (fr_s Fm38 (fr_m (fr_s Fm29 (fr_m (fr_s Fm23 (fr_m (fr_s Fm11 (fr_m (fr_s Fm3 (fr_m fr_0 rfl rfl) rfl rfl) rfl rfl) rfl rfl) rfl rfl) rfl rfl) rfl rfl) rfl rfl) rfl rfl) rfl rfl) rfl rfl) rfl rfl) rfl rfl), (show NKp (m100.2 18) (m100.2 19) by exact hNK), rfl⟩
            refine Or.inl ⟨_, _, _, _, rfl, ?_⟩
            refine K_nb (st' := []) rfl ?_
            have g104 : 0 ≤ m96.1 203 ∧ m96.1 203 ≤ 90 := Tm96.1 203
            have g105 : (-1) ≤ m96.1 206 ∧ m96.1 206 ≤ 65535 := Tm96.1 206
            have g106 : 0 ≤ m96.1 207 ∧ m96.1 207 ≤ 4001 := Tm96.1 207
            have g107 : 0 ≤ m96.1 213 ∧ m96.1 213 ≤ 1 := Tm96.1 213
            have g108 : 0 ≤ m96.1 221 ∧ m96.1 221 ≤ 16 := Tm96.1 221
            replace h97 : KPp (m96.1 203) (m96.2 8) (m96.2 9) (m38.1 214) (m38.1 215) (m38.1 216) (m38.1 217) (m96.1 221) (m38.1 223) (m38.1 219) := h97
            rewrite [(show (m38.1 214) = (m.1 214) from ((fr1 Fm38 214 rfl).trans ((fr1 Fm29 214 rfl).trans ((fr1 Fm23 214 rfl).trans ((fr1 Fm11 214 rfl).trans (fr1 Fm3 214 rfl)))))), (show (m38.1 215) = (m.1 215) from ((fr1 Fm38 215 rfl).trans ((fr1 Fm29 215 rfl).trans ((fr1 Fm23 215 rfl).trans ((fr1 Fm11 215 rfl).trans (fr1 Fm3 215 rfl)))))), (show (m38.1 216) = (m.1 216) from ((fr1 Fm38 216 rfl).trans ((fr1 Fm29 216 rfl).trans ((fr1 Fm23 216 rfl).trans ((fr1 Fm11 216 rfl).trans (fr1 Fm3 216 rfl)))))), (show (m38.1 217) = (m.1 217) from ((fr1 Fm38 217 rfl).trans ((fr1 Fm29 217 rfl).trans ((fr1 Fm23 217 rfl).trans ((fr1 Fm11 217 rfl).trans (fr1 Fm3 217 rfl)))))), (show (m38.1 223) = (m.1 223) from ((fr1 Fm38 223 rfl).trans ((fr1 Fm29 223 rfl).trans ((fr1 Fm23 223 rfl).trans ((fr1 Fm11 223 rfl).trans (fr1 Fm3 223 rfl)))))), (show (m38.1 219) = (m.1 219) from ((fr1 Fm38 219 rfl).trans ((fr1 Fm29 219 rfl).trans ((fr1 Fm23 219 rfl).trans ((fr1 Fm11 219 rfl).trans (fr1 Fm3 219 rfl))))))] at h97
            have pKP := h97
            replace h98 : SSp (m38.1 222) (m96.2 36) (m96.1 221) := h98
            rewrite [(show (m38.1 222) = (m23.1 222) from ((fr1 Fm38 222 rfl).trans (fr1 Fm29 222 rfl)))] at h98
            have hSS := h98
            replace h99 : NKp (m96.2 18) (m96.2 19) := h99
            have hNK := h99
            refine T_goto 208 rfl (fun _ => rfl) ?_
            refine T_ld 209 (.ref 178) rfl (fun _ => rfl) ?_
            refine K_gf 212 (.ref 6) rfl rfl kd_178 rfl rfl rfl ?_
            refine T_ld 214 (.int (i32 125)) rfl (fun _ => rfl) ?_
            refine T_callx 217 78 [.ref 6, .int (i32 125)] [] rfl (fun _ => rfl) rfl rfl (c_tx_expect w (mO m96 [] []) c N D (by omega) Tm96 125 ⟨by decide, by decide⟩) (fun rr109 k110 => ?_)
            rcases k110 with ⟨m111, Tm111, Fm111, h112, h113, rfl⟩ | ⟨xx116, m114, hx115, Tm114, Fm114, rfl⟩
            rotate_left
            · skip
              refine Or.inr ⟨_, _, _, _, rfl, ?_⟩
              exact Or.inr ⟨xx116, (mO m114 [] []), (hx115), Tm114, (fr_m (fr_s Fm114 (fr_m (fr_s Fm96 (fr_m (fr_s Fm38 (fr_m (fr_s Fm29 (fr_m (fr_s Fm23 (fr_m (fr_s Fm11 (fr_m (fr_s Fm3 (fr_m fr_0 rfl rfl) rfl rfl) rfl rfl) rfl rfl) rfl rfl) rfl rfl) rfl rfl) rfl rfl) rfl rfl) rfl rfl) rfl rfl) rfl rfl) rfl rfl) rfl rfl) rfl rfl), (show NKp (m114.2 18) (m114.2 19) by rewrite [(show (m114.2 18) = (m96.2 18) from (fr2 Fm114 18 rfl)), (show (m114.2 19) = (m96.2 19) from (fr2 Fm114 19 rfl))]; exact hNK), rfl⟩
            refine Or.inl ⟨_, _, _, _, rfl, ?_⟩
            refine K_nb (st' := []) rfl ?_
            have g117 : (-1) ≤ m111.1 206 ∧ m111.1 206 ≤ 65535 := Tm111.1 206
            have g118 : 0 ≤ m111.1 207 ∧ m111.1 207 ≤ 4001 := Tm111.1 207
            replace h112 : (m96.1 206) = (125 : Int) := h112
            replace h113 : (m96.1 213) = 0 := h113
            refine T_ret rfl (fun _ => rfl) ?_
            exact Or.inl ⟨(mO m111 [] []), Tm111, (fr_m (fr_s Fm111 (fr_m (fr_s Fm96 (fr_m (fr_s Fm38 (fr_m (fr_s Fm29 (fr_m (fr_s Fm23 (fr_m (fr_s Fm11 (fr_m (fr_s Fm3 (fr_m fr_0 rfl rfl) rfl rfl) rfl rfl) rfl rfl) rfl rfl) rfl rfl) rfl rfl) rfl rfl) rfl rfl) rfl rfl) rfl rfl) rfl rfl) rfl rfl) rfl rfl) rfl rfl), (show KPp (m111.1 203) (m111.2 8) (m111.2 9) (m.1 214) (m.1 215) (m.1 216) (m.1 217) (m111.1 221) (m.1 223) (m.1 219) by rewrite [(show (m111.1 203) = (m96.1 203) from (fr1 Fm111 203 rfl)), (show (m111.2 8) = (m96.2 8) from (fr2 Fm111 8 rfl)), (show (m111.2 9) = (m96.2 9) from (fr2 Fm111 9 rfl)), (show (m111.1 221) = (m96.1 221) from (fr1 Fm111 221 rfl))]; first | (exact pKP) | (exfalso; omega)), (show SSp (m111.1 222) (m111.2 36) (m111.1 221) by rewrite [(show (m111.1 222) = (m23.1 222) from ((fr1 Fm111 222 rfl).trans ((fr1 Fm96 222 rfl).trans ((fr1 Fm38 222 rfl).trans (fr1 Fm29 222 rfl))))), (show (m111.2 36) = (m96.2 36) from (fr2 Fm111 36 rfl)), (show (m111.1 221) = (m96.1 221) from (fr1 Fm111 221 rfl))]; first | (exact hSS) | (exfalso; omega)), (show NKp (m111.2 18) (m111.2 19) by rewrite [(show (m111.2 18) = (m96.2 18) from (fr2 Fm111 18 rfl)), (show (m111.2 19) = (m96.2 19) from (fr2 Fm111 19 rfl))]; first | (exact hNK) | (exfalso; omega)), rfl⟩
        · skip
          refine T_ld 131 (.ref 178) rfl (fun _ => rfl) ?_
          refine K_gf 134 (.ref 6) rfl rfl kd_178 rfl rfl rfl ?_
          refine K_gf 137 (.int (i32 (m38.1 206))) rfl rfl kd_6 rfl rfl rfl ?_
          refine T_ld 140 (.int (i32 305)) rfl (fun _ => rfl) ?_
          refine T_icmp 155 143 rfl rfl rfl (r32 (by omega) (by omega)) ⟨by decide, by decide⟩ (fun (h119 : (m38.1 206) ≠ 305) => ?_) (fun (h119 : ¬ ((m38.1 206) ≠ 305)) => ?_)
          · skip
            refine T_ld 156 (.ref 178) rfl (fun _ => rfl) ?_
            refine K_gf 159 (.ref 6) rfl rfl kd_178 rfl rfl rfl ?_
            refine K_gf 162 (.int (i32 (m38.1 206))) rfl rfl kd_6 rfl rfl rfl ?_
            refine T_ld 165 (.int (i32 307)) rfl (fun _ => rfl) ?_
            refine T_icmp 176 168 rfl rfl rfl (r32 (by omega) (by omega)) ⟨by decide, by decide⟩ (fun (h120 : (m38.1 206) ≠ 307) => ?_) (fun (h120 : ¬ ((m38.1 206) ≠ 307)) => ?_)
            · skip
              refine T_ld 177 (.ref 178) rfl (fun _ => rfl) ?_
              refine K_gf 180 (.ref 6) rfl rfl kd_178 rfl rfl rfl ?_
              refine T_ld 183 (.int (i32 306)) rfl (fun _ => rfl) ?_
              refine T_callx 186 78 [.ref 6, .int (i32 306)] [] rfl (fun _ => rfl) rfl rfl (c_tx_expect w (mO m38 [] []) c N D (by omega) Tm38 306 ⟨by decide, by decide⟩) (fun rr121 k122 => ?_)
              rcases k122 with ⟨m123, Tm123, Fm123, h124, h125, rfl⟩ | ⟨xx128, m126, hx127, Tm126, Fm126, rfl⟩
              rotate_left
              · skip
                refine Or.inr ⟨_, _, _, _, rfl, ?_⟩
                exact Or.inr ⟨xx128, (mO m126 [] []), (hx127), Tm126, (fr_m (fr_s Fm126 (fr_m (fr_s Fm38 (fr_m (fr_s Fm29 (fr_m (fr_s Fm23 (fr_m (fr_s Fm11 (fr_m (fr_s Fm3 (fr_m fr_0 rfl rfl) rfl rfl) rfl rfl) rfl rfl) rfl rfl) rfl rfl) rfl rfl) rfl rfl) rfl rfl) rfl rfl) rfl rfl) rfl rfl) rfl rfl), (show NKp (m126.2 18) (m126.2 19) by rewrite [(show (m126.2 18) = (m.2 18) from ((fr2 Fm126 18 rfl).trans ((fr2 Fm38 18 rfl).trans ((fr2 Fm29 18 rfl).trans ((fr2 Fm23 18 rfl).trans ((fr2 Fm11 18 rfl).trans (fr2 Fm3 18 rfl))))))), (show (m126.2 19) = (m.2 19) from ((fr2 Fm126 19 rfl).trans ((fr2 Fm38 19 rfl).trans ((fr2 Fm29 19 rfl).trans ((fr2 Fm23 19 rfl).trans ((fr2 Fm11 19 rfl).trans (fr2 Fm3 19 rfl)))))))]; exact hNK), rfl⟩
              refine Or.inl ⟨_, _, _, _, rfl, ?_⟩
              refine K_nb (st' := []) rfl ?_
              have g129 : (-1) ≤ m123.1 206 ∧ m123.1 206 ≤ 65535 := Tm123.1 206
              have g130 : 0 ≤ m123.1 207 ∧ m123.1 207 ≤ 4001 := Tm123.1 207
              replace h124 : (m38.1 206) = (306 : Int) := h124
              replace h125 : (m38.1 213) = 0 := h125
              rewrite [(show (m38.1 213) = (m.1 213) from ((fr1 Fm38 213 rfl).trans ((fr1 Fm29 213 rfl).trans ((fr1 Fm23 213 rfl).trans ((fr1 Fm11 213 rfl).trans (fr1 Fm3 213 rfl))))))] at h125
              refine T_ld 187 (.ref 178) rfl (fun _ => rfl) ?_
              refine K_gf 190 (.ref 31) rfl rfl kd_178 rfl rfl rfl ?_
              refine K_gf 193 (.ref 40) rfl rfl kd_31 rfl rfl rfl ?_
              refine T_ld 194 (.int (i32 v10)) rfl (fun _ => rfl) ?_
              refine T_ld 195 (.ref 178) rfl (fun _ => rfl) ?_
              refine T_callx 198 117 [.ref 178] [.int (i32 v10), .ref 40] rfl (fun _ => rfl) rfl rfl (c_rd_goal w (mO m123 [] []) c N D (by omega) Tm123 (show KPp (m123.1 203) (m123.2 8) (m123.2 9) (m123.1 214) (m123.1 215) (m123.1 216) (m123.1 217) (m123.1 221) (m123.1 223) (m123.1 219) by rewrite [(show (m123.1 203) = (m11.1 203) from ((fr1 Fm123 203 rfl).trans ((fr1 Fm38 203 rfl).trans ((fr1 Fm29 203 rfl).trans (fr1 Fm23 203 rfl))))), (show (m123.2 8) = (m11.2 8) from ((fr2 Fm123 8 rfl).trans ((fr2 Fm38 8 rfl).trans ((fr2 Fm29 8 rfl).trans (fr2 Fm23 8 rfl))))), (show (m123.2 9) = (m11.2 9) from ((fr2 Fm123 9 rfl).trans ((fr2 Fm38 9 rfl).trans ((fr2 Fm29 9 rfl).trans (fr2 Fm23 9 rfl))))), (show (m123.1 214) = (m.1 214) from ((fr1 Fm123 214 rfl).trans ((fr1 Fm38 214 rfl).trans ((fr1 Fm29 214 rfl).trans ((fr1 Fm23 214 rfl).trans ((fr1 Fm11 214 rfl).trans (fr1 Fm3 214 rfl))))))), (show (m123.1 215) = (m.1 215) from ((fr1 Fm123 215 rfl).trans ((fr1 Fm38 215 rfl).trans ((fr1 Fm29 215 rfl).trans ((fr1 Fm23 215 rfl).trans ((fr1 Fm11 215 rfl).trans (fr1 Fm3 215 rfl))))))), (show (m123.1 216) = (m.1 216) from ((fr1 Fm123 216 rfl).trans ((fr1 Fm38 216 rfl).trans ((fr1 Fm29 216 rfl).trans ((fr1 Fm23 216 rfl).trans ((fr1 Fm11 216 rfl).trans (fr1 Fm3 216 rfl))))))), (show (m123.1 217) = (m.1 217) from ((fr1 Fm123 217 rfl).trans ((fr1 Fm38 217 rfl).trans ((fr1 Fm29 217 rfl).trans ((fr1 Fm23 217 rfl).trans ((fr1 Fm11 217 rfl).trans (fr1 Fm3 217 rfl))))))), (show (m123.1 221) = (m11.1 221) from ((fr1 Fm123 221 rfl).trans ((fr1 Fm38 221 rfl).trans ((fr1 Fm29 221 rfl).trans (fr1 Fm23 221 rfl))))), (show (m123.1 223) = (m.1 223) from ((fr1 Fm123 223 rfl).trans ((fr1 Fm38 223 rfl).trans ((fr1 Fm29 223 rfl).trans ((fr1 Fm23 223 rfl).trans ((fr1 Fm11 223 rfl).trans (fr1 Fm3 223 rfl))))))), (show (m123.1 219) = (m.1 219) from ((fr1 Fm123 219 rfl).trans ((fr1 Fm38 219 rfl).trans ((fr1 Fm29 219 rfl).trans ((fr1 Fm23 219 rfl).trans ((fr1 Fm11 219 rfl).trans (fr1 Fm3 219 rfl)))))))]; exact pKP) (show SSp (m123.1 222) (m123.2 36) (m123.1 221) by rewrite [(show (m123.1 222) = (m23.1 222) from ((fr1 Fm123 222 rfl).trans ((fr1 Fm38 222 rfl).trans (fr1 Fm29 222 rfl)))), (show (m123.2 36) = (m23.2 36) from ((fr2 Fm123 36 rfl).trans ((fr2 Fm38 36 rfl).trans (fr2 Fm29 36 rfl)))), (show (m123.1 221) = (m11.1 221) from ((fr1 Fm123 221 rfl).trans ((fr1 Fm38 221 rfl).trans ((fr1 Fm29 221 rfl).trans (fr1 Fm23 221 rfl)))))]; exact hSS)) (fun rr131 k132 => ?_)
              rcases k132 with ⟨m133, go, Tm133, Fm133, g134, h135, h136, h137, rfl⟩ | ⟨xx140, m138, hx139, Tm138, Fm138, rfl⟩
              rotate_left
              · skip
                refine Or.inr ⟨_, _, _, _, rfl, ?_⟩
                exact Or.inr ⟨xx140, (mO m138 [] []), (hx139), Tm138, (fr_m (fr_s Fm138 (fr_m (fr_s Fm123 (fr_m (fr_s Fm38 (fr_m (fr_s Fm29 (fr_m (fr_s Fm23 (fr_m (fr_s Fm11 (fr_m (fr_s Fm3 (fr_m fr_0 rfl rfl) rfl rfl) rfl rfl) rfl rfl) rfl rfl) rfl rfl) rfl rfl) rfl rfl) rfl rfl) rfl rfl) rfl rfl) rfl rfl) rfl rfl) rfl rfl) rfl rfl), (show NKp (m138.2 18) (m138.2 19) by rewrite [(show (m138.2 18) = (m.2 18) from ((fr2 Fm138 18 rfl).trans ((fr2 Fm123 18 rfl).trans ((fr2 Fm38 18 rfl).trans ((fr2 Fm29 18 rfl).trans ((fr2 Fm23 18 rfl).trans ((fr2 Fm11 18 rfl).trans (fr2 Fm3 18 rfl)))))))), (show (m138.2 19) = (m.2 19) from ((fr2 Fm138 19 rfl).trans ((fr2 Fm123 19 rfl).trans ((fr2 Fm38 19 rfl).trans ((fr2 Fm29 19 rfl).trans ((fr2 Fm23 19 rfl).trans ((fr2 Fm11 19 rfl).trans (fr2 Fm3 19 rfl))))))))]; exact hNK), rfl⟩
              refine Or.inl ⟨_, _, _, _, rfl, ?_⟩
              refine K_nb (st' := [.int (i32 go), .int (i32 v10), .ref 40]) rfl ?_
              obtain ⟨g134a, g134b⟩ := g134
              have g141 : 0 ≤ m133.1 203 ∧ m133.1 203 ≤ 90 := Tm133.1 203
              have g142 : (-1) ≤ m133.1 206 ∧ m133.1 206 ≤ 65535 := Tm133.1 206
              have g143 : 0 ≤ m133.1 207 ∧ m133.1 207 ≤ 4001 := Tm133.1 207
              have g144 : 0 ≤ m133.1 221 ∧ m133.1 221 ≤ 16 := Tm133.1 221
              replace h135 : KPp (m133.1 203) (m133.2 8) (m133.2 9) (m123.1 214) (m123.1 215) (m123.1 216) (m123.1 217) (m133.1 221) (m123.1 223) (m123.1 219) := h135
              rewrite [(show (m123.1 214) = (m.1 214) from ((fr1 Fm123 214 rfl).trans ((fr1 Fm38 214 rfl).trans ((fr1 Fm29 214 rfl).trans ((fr1 Fm23 214 rfl).trans ((fr1 Fm11 214 rfl).trans (fr1 Fm3 214 rfl))))))), (show (m123.1 215) = (m.1 215) from ((fr1 Fm123 215 rfl).trans ((fr1 Fm38 215 rfl).trans ((fr1 Fm29 215 rfl).trans ((fr1 Fm23 215 rfl).trans ((fr1 Fm11 215 rfl).trans (fr1 Fm3 215 rfl))))))), (show (m123.1 216) = (m.1 216) from ((fr1 Fm123 216 rfl).trans ((fr1 Fm38 216 rfl).trans ((fr1 Fm29 216 rfl).trans ((fr1 Fm23 216 rfl).trans ((fr1 Fm11 216 rfl).trans (fr1 Fm3 216 rfl))))))), (show (m123.1 217) = (m.1 217) from ((fr1 Fm123 217 rfl).trans ((fr1 Fm38 217 rfl).trans ((fr1 Fm29 217 rfl).trans ((fr1 Fm23 217 rfl).trans ((fr1 Fm11 217 rfl).trans (fr1 Fm3 217 rfl))))))), (show (m123.1 223) = (m.1 223) from ((fr1 Fm123 223 rfl).trans ((fr1 Fm38 223 rfl).trans ((fr1 Fm29 223 rfl).trans ((fr1 Fm23 223 rfl).trans ((fr1 Fm11 223 rfl).trans (fr1 Fm3 223 rfl))))))), (show (m123.1 219) = (m.1 219) from ((fr1 Fm123 219 rfl).trans ((fr1 Fm38 219 rfl).trans ((fr1 Fm29 219 rfl).trans ((fr1 Fm23 219 rfl).trans ((fr1 Fm11 219 rfl).trans (fr1 Fm3 219 rfl)))))))] at h135
              have pKP := h135
              replace h136 : SSp (m123.1 222) (m133.2 36) (m133.1 221) := h136
              rewrite [(show (m123.1 222) = (m23.1 222) from ((fr1 Fm123 222 rfl).trans ((fr1 Fm38 222 rfl).trans (fr1 Fm29 222 rfl))))] at h136
              have hSS := h136
              replace h137 : (m123.1 221) ≤ (m133.1 221) := h137
              rewrite [(show (m123.1 221) = (m11.1 221) from ((fr1 Fm123 221 rfl).trans ((fr1 Fm38 221 rfl).trans ((fr1 Fm29 221 rfl).trans (fr1 Fm23 221 rfl)))))] at h137
              have G145 : ∀ j, 0 ≤ (upI (m.2 34) v10 go) j ∧ (upI (m.2 34) v10 go) j ≤ 17 := upI_rg (hT.2.1 34) ⟨by omega, by omega⟩
              refine K_iast (a' := [(34, upI (m.2 34) v10 go)]) 199 34 (m.2 34) rfl rfl rfl (by omega) (show v10 < (16 : Int) by omega) (show (m133.2 34) = (m.2 34) from ((fr2 Fm133 34 rfl).trans ((fr2 Fm123 34 rfl).trans ((fr2 Fm38 34 rfl).trans ((fr2 Fm29 34 rfl).trans ((fr2 Fm23 34 rfl).trans ((fr2 Fm11 34 rfl).trans (fr2 Fm3 34 rfl)))))))) rfl ?_
              refine T_ld 200 (.ref 178) rfl (fun _ => rfl) ?_
              refine K_gf 203 (.ref 6) rfl rfl kd_178 rfl rfl rfl ?_
              refine T_ld 205 (.int (i32 59)) rfl (fun _ => rfl) ?_
              refine T_callx 208 78 [.ref 6, .int (i32 59)] [] rfl (fun _ => rfl) rfl rfl (c_tx_expect w (mO m133 [] [(34, upI (m.2 34) v10 go)]) c N D (by omega) (KTy_mO Tm133 rfl rfl trivial ⟨G145, trivial⟩) 59 ⟨by decide, by decide⟩) (fun rr146 k147 => ?_)
              rcases k147 with ⟨m148, Tm148, Fm148, h149, h150, rfl⟩ | ⟨xx153, m151, hx152, Tm151, Fm151, rfl⟩
              rotate_left
              · skip
                refine Or.inr ⟨_, _, _, _, rfl, ?_⟩
                exact Or.inr ⟨xx153, (mO m151 [] []), (hx152), Tm151, (fr_m (fr_s Fm151 (fr_m (fr_s Fm133 (fr_m (fr_s Fm123 (fr_m (fr_s Fm38 (fr_m (fr_s Fm29 (fr_m (fr_s Fm23 (fr_m (fr_s Fm11 (fr_m (fr_s Fm3 (fr_m fr_0 rfl rfl) rfl rfl) rfl rfl) rfl rfl) rfl rfl) rfl rfl) rfl rfl) rfl rfl) rfl rfl) rfl rfl) rfl rfl) rfl rfl) rfl rfl) rfl rfl) rfl rfl) rfl rfl) rfl rfl), (show NKp (m151.2 18) (m151.2 19) by rewrite [(show (m151.2 18) = (m.2 18) from ((fr2 Fm151 18 rfl).trans ((fr2 Fm133 18 rfl).trans ((fr2 Fm123 18 rfl).trans ((fr2 Fm38 18 rfl).trans ((fr2 Fm29 18 rfl).trans ((fr2 Fm23 18 rfl).trans ((fr2 Fm11 18 rfl).trans (fr2 Fm3 18 rfl))))))))), (show (m151.2 19) = (m.2 19) from ((fr2 Fm151 19 rfl).trans ((fr2 Fm133 19 rfl).trans ((fr2 Fm123 19 rfl).trans ((fr2 Fm38 19 rfl).trans ((fr2 Fm29 19 rfl).trans ((fr2 Fm23 19 rfl).trans ((fr2 Fm11 19 rfl).trans (fr2 Fm3 19 rfl)))))))))]; exact hNK), rfl⟩
              refine Or.inl ⟨_, _, _, _, rfl, ?_⟩
              refine K_nb (st' := []) rfl ?_
              have g154 : (-1) ≤ m148.1 206 ∧ m148.1 206 ≤ 65535 := Tm148.1 206
              have g155 : 0 ≤ m148.1 207 ∧ m148.1 207 ≤ 4001 := Tm148.1 207
              replace h149 : (m133.1 206) = (59 : Int) := h149
              replace h150 : (m133.1 213) = 0 := h150
              rewrite [(show (m133.1 213) = (m.1 213) from ((fr1 Fm133 213 rfl).trans ((fr1 Fm123 213 rfl).trans ((fr1 Fm38 213 rfl).trans ((fr1 Fm29 213 rfl).trans ((fr1 Fm23 213 rfl).trans ((fr1 Fm11 213 rfl).trans (fr1 Fm3 213 rfl))))))))] at h150
              refine T_ld 209 (.ref 178) rfl (fun _ => rfl) ?_
              refine K_gf 212 (.ref 6) rfl rfl kd_178 rfl rfl rfl ?_
              refine T_ld 214 (.int (i32 125)) rfl (fun _ => rfl) ?_
              refine T_callx 217 78 [.ref 6, .int (i32 125)] [] rfl (fun _ => rfl) rfl rfl (c_tx_expect w (mO m148 [] []) c N D (by omega) Tm148 125 ⟨by decide, by decide⟩) (fun rr156 k157 => ?_)
              rcases k157 with ⟨m158, Tm158, Fm158, h159, h160, rfl⟩ | ⟨xx163, m161, hx162, Tm161, Fm161, rfl⟩
              rotate_left
              · skip
                refine Or.inr ⟨_, _, _, _, rfl, ?_⟩
                exact Or.inr ⟨xx163, (mO m161 [] []), (hx162), Tm161, (fr_m (fr_s Fm161 (fr_m (fr_s Fm148 (fr_m (fr_s Fm133 (fr_m (fr_s Fm123 (fr_m (fr_s Fm38 (fr_m (fr_s Fm29 (fr_m (fr_s Fm23 (fr_m (fr_s Fm11 (fr_m (fr_s Fm3 (fr_m fr_0 rfl rfl) rfl rfl) rfl rfl) rfl rfl) rfl rfl) rfl rfl) rfl rfl) rfl rfl) rfl rfl) rfl rfl) rfl rfl) rfl rfl) rfl rfl) rfl rfl) rfl rfl) rfl rfl) rfl rfl) rfl rfl) rfl rfl), (show NKp (m161.2 18) (m161.2 19) by rewrite [(show (m161.2 18) = (m.2 18) from ((fr2 Fm161 18 rfl).trans ((fr2 Fm148 18 rfl).trans ((fr2 Fm133 18 rfl).trans ((fr2 Fm123 18 rfl).trans ((fr2 Fm38 18 rfl).trans ((fr2 Fm29 18 rfl).trans ((fr2 Fm23 18 rfl).trans ((fr2 Fm11 18 rfl).trans (fr2 Fm3 18 rfl)))))))))), (show (m161.2 19) = (m.2 19) from ((fr2 Fm161 19 rfl).trans ((fr2 Fm148 19 rfl).trans ((fr2 Fm133 19 rfl).trans ((fr2 Fm123 19 rfl).trans ((fr2 Fm38 19 rfl).trans ((fr2 Fm29 19 rfl).trans ((fr2 Fm23 19 rfl).trans ((fr2 Fm11 19 rfl).trans (fr2 Fm3 19 rfl))))))))))]; exact hNK), rfl⟩
              refine Or.inl ⟨_, _, _, _, rfl, ?_⟩
              refine K_nb (st' := []) rfl ?_
              have g164 : (-1) ≤ m158.1 206 ∧ m158.1 206 ≤ 65535 := Tm158.1 206
              have g165 : 0 ≤ m158.1 207 ∧ m158.1 207 ≤ 4001 := Tm158.1 207
              replace h159 : (m148.1 206) = (125 : Int) := h159
              replace h160 : (m148.1 213) = 0 := h160
              rewrite [(show (m148.1 213) = (m.1 213) from ((fr1 Fm148 213 rfl).trans ((fr1 Fm133 213 rfl).trans ((fr1 Fm123 213 rfl).trans ((fr1 Fm38 213 rfl).trans ((fr1 Fm29 213 rfl).trans ((fr1 Fm23 213 rfl).trans ((fr1 Fm11 213 rfl).trans (fr1 Fm3 213 rfl)))))))))] at h160
              refine T_ret rfl (fun _ => rfl) ?_
              exact Or.inl ⟨(mO m158 [] []), Tm158, (fr_m (fr_s Fm158 (fr_m (fr_s Fm148 (fr_m (fr_s Fm133 (fr_m (fr_s Fm123 (fr_m (fr_s Fm38 (fr_m (fr_s Fm29 (fr_m (fr_s Fm23 (fr_m (fr_s Fm11 (fr_m (fr_s Fm3 (fr_m fr_0 rfl rfl) rfl rfl) rfl rfl) rfl rfl) rfl rfl) rfl rfl) rfl rfl) rfl rfl) rfl rfl) rfl rfl) rfl rfl) rfl rfl) rfl rfl) rfl rfl) rfl rfl) rfl rfl) rfl rfl) rfl rfl) rfl rfl), (show KPp (m158.1 203) (m158.2 8) (m158.2 9) (m.1 214) (m.1 215) (m.1 216) (m.1 217) (m158.1 221) (m.1 223) (m.1 219) by rewrite [(show (m158.1 203) = (m133.1 203) from ((fr1 Fm158 203 rfl).trans (fr1 Fm148 203 rfl))), (show (m158.2 8) = (m133.2 8) from ((fr2 Fm158 8 rfl).trans (fr2 Fm148 8 rfl))), (show (m158.2 9) = (m133.2 9) from ((fr2 Fm158 9 rfl).trans (fr2 Fm148 9 rfl))), (show (m158.1 221) = (m133.1 221) from ((fr1 Fm158 221 rfl).trans (fr1 Fm148 221 rfl)))]; first | (exact pKP) | (exfalso; omega)), (show SSp (m158.1 222) (m158.2 36) (m158.1 221) by rewrite [(show (m158.1 222) = (m23.1 222) from ((fr1 Fm158 222 rfl).trans ((fr1 Fm148 222 rfl).trans ((fr1 Fm133 222 rfl).trans ((fr1 Fm123 222 rfl).trans ((fr1 Fm38 222 rfl).trans (fr1 Fm29 222 rfl))))))), (show (m158.2 36) = (m133.2 36) from ((fr2 Fm158 36 rfl).trans (fr2 Fm148 36 rfl))), (show (m158.1 221) = (m133.1 221) from ((fr1 Fm158 221 rfl).trans (fr1 Fm148 221 rfl)))]; first | (exact hSS) | (exfalso; omega)), (show NKp (m158.2 18) (m158.2 19) by rewrite [(show (m158.2 18) = (m.2 18) from ((fr2 Fm158 18 rfl).trans ((fr2 Fm148 18 rfl).trans ((fr2 Fm133 18 rfl).trans ((fr2 Fm123 18 rfl).trans ((fr2 Fm38 18 rfl).trans ((fr2 Fm29 18 rfl).trans ((fr2 Fm23 18 rfl).trans ((fr2 Fm11 18 rfl).trans (fr2 Fm3 18 rfl)))))))))), (show (m158.2 19) = (m.2 19) from ((fr2 Fm158 19 rfl).trans ((fr2 Fm148 19 rfl).trans ((fr2 Fm133 19 rfl).trans ((fr2 Fm123 19 rfl).trans ((fr2 Fm38 19 rfl).trans ((fr2 Fm29 19 rfl).trans ((fr2 Fm23 19 rfl).trans ((fr2 Fm11 19 rfl).trans (fr2 Fm3 19 rfl))))))))))]; first | (exact hNK) | (exfalso; omega)), rfl⟩
            · skip
              refine T_ld 169 (.ref 178) rfl (fun _ => rfl) ?_
              refine T_ld 170 (.int (i32 v10)) rfl (fun _ => rfl) ?_
              refine T_callx 173 91 [.ref 178, .int (i32 v10)] [] rfl (fun _ => rfl) rfl rfl (c_rd_select w (mO m38 [] []) c N D (by omega) Tm38 v10 (r32 (by omega) (by omega)) (show KPp (m38.1 203) (m38.2 8) (m38.2 9) (m38.1 214) (m38.1 215) (m38.1 216) (m38.1 217) (m38.1 221) (m38.1 223) (m38.1 219) by rewrite [(show (m38.1 203) = (m11.1 203) from ((fr1 Fm38 203 rfl).trans ((fr1 Fm29 203 rfl).trans (fr1 Fm23 203 rfl)))), (show (m38.2 8) = (m11.2 8) from ((fr2 Fm38 8 rfl).trans ((fr2 Fm29 8 rfl).trans (fr2 Fm23 8 rfl)))), (show (m38.2 9) = (m11.2 9) from ((fr2 Fm38 9 rfl).trans ((fr2 Fm29 9 rfl).trans (fr2 Fm23 9 rfl)))), (show (m38.1 214) = (m.1 214) from ((fr1 Fm38 214 rfl).trans ((fr1 Fm29 214 rfl).trans ((fr1 Fm23 214 rfl).trans ((fr1 Fm11 214 rfl).trans (fr1 Fm3 214 rfl)))))), (show (m38.1 215) = (m.1 215) from ((fr1 Fm38 215 rfl).trans ((fr1 Fm29 215 rfl).trans ((fr1 Fm23 215 rfl).trans ((fr1 Fm11 215 rfl).trans (fr1 Fm3 215 rfl)))))), (show (m38.1 216) = (m.1 216) from ((fr1 Fm38 216 rfl).trans ((fr1 Fm29 216 rfl).trans ((fr1 Fm23 216 rfl).trans ((fr1 Fm11 216 rfl).trans (fr1 Fm3 216 rfl)))))), (show (m38.1 217) = (m.1 217) from ((fr1 Fm38 217 rfl).trans ((fr1 Fm29 217 rfl).trans ((fr1 Fm23 217 rfl).trans ((fr1 Fm11 217 rfl).trans (fr1 Fm3 217 rfl)))))), (show (m38.1 221) = (m11.1 221) from ((fr1 Fm38 221 rfl).trans ((fr1 Fm29 221 rfl).trans (fr1 Fm23 221 rfl)))), (show (m38.1 223) = (m.1 223) from ((fr1 Fm38 223 rfl).trans ((fr1 Fm29 223 rfl).trans ((fr1 Fm23 223 rfl).trans ((fr1 Fm11 223 rfl).trans (fr1 Fm3 223 rfl)))))), (show (m38.1 219) = (m.1 219) from ((fr1 Fm38 219 rfl).trans ((fr1 Fm29 219 rfl).trans ((fr1 Fm23 219 rfl).trans ((fr1 Fm11 219 rfl).trans (fr1 Fm3 219 rfl))))))]; exact pKP) (show SSp (m38.1 222) (m38.2 36) (m38.1 221) by rewrite [(show (m38.1 222) = (m23.1 222) from ((fr1 Fm38 222 rfl).trans (fr1 Fm29 222 rfl))), (show (m38.2 36) = (m23.2 36) from ((fr2 Fm38 36 rfl).trans (fr2 Fm29 36 rfl))), (show (m38.1 221) = (m11.1 221) from ((fr1 Fm38 221 rfl).trans ((fr1 Fm29 221 rfl).trans (fr1 Fm23 221 rfl))))]; exact hSS) (show NKp (m38.2 18) (m38.2 19) by rewrite [(show (m38.2 18) = (m.2 18) from ((fr2 Fm38 18 rfl).trans ((fr2 Fm29 18 rfl).trans ((fr2 Fm23 18 rfl).trans ((fr2 Fm11 18 rfl).trans (fr2 Fm3 18 rfl)))))), (show (m38.2 19) = (m.2 19) from ((fr2 Fm38 19 rfl).trans ((fr2 Fm29 19 rfl).trans ((fr2 Fm23 19 rfl).trans ((fr2 Fm11 19 rfl).trans (fr2 Fm3 19 rfl))))))]; exact hNK) (show 0 ≤ v10 ∧ v10 ≤ 15 by omega)) (fun rr166 k167 => ?_)
              rcases k167 with ⟨m168, Tm168, Fm168, h169, h170, h171, rfl⟩ | ⟨xx175, m172, hx173, Tm172, Fm172, h174, rfl⟩
              rotate_left
              · skip
                refine Or.inr ⟨_, _, _, _, rfl, ?_⟩
                have hNK := h174
                exact Or.inr ⟨xx175, (mO m172 [] []), (hx173), Tm172, (fr_m (fr_s Fm172 (fr_m (fr_s Fm38 (fr_m (fr_s Fm29 (fr_m (fr_s Fm23 (fr_m (fr_s Fm11 (fr_m (fr_s Fm3 (fr_m fr_0 rfl rfl) rfl rfl) rfl rfl) rfl rfl) rfl rfl) rfl rfl) rfl rfl) rfl rfl) rfl rfl) rfl rfl) rfl rfl) rfl rfl) rfl rfl), (show NKp (m172.2 18) (m172.2 19) by exact hNK), rfl⟩
              refine Or.inl ⟨_, _, _, _, rfl, ?_⟩
              refine K_nb (st' := []) rfl ?_
              have g176 : 0 ≤ m168.1 203 ∧ m168.1 203 ≤ 90 := Tm168.1 203
              have g177 : (-1) ≤ m168.1 206 ∧ m168.1 206 ≤ 65535 := Tm168.1 206
              have g178 : 0 ≤ m168.1 207 ∧ m168.1 207 ≤ 4001 := Tm168.1 207
              have g179 : 0 ≤ m168.1 213 ∧ m168.1 213 ≤ 1 := Tm168.1 213
              have g180 : 0 ≤ m168.1 221 ∧ m168.1 221 ≤ 16 := Tm168.1 221
              replace h169 : KPp (m168.1 203) (m168.2 8) (m168.2 9) (m38.1 214) (m38.1 215) (m38.1 216) (m38.1 217) (m168.1 221) (m38.1 223) (m38.1 219) := h169
              rewrite [(show (m38.1 214) = (m.1 214) from ((fr1 Fm38 214 rfl).trans ((fr1 Fm29 214 rfl).trans ((fr1 Fm23 214 rfl).trans ((fr1 Fm11 214 rfl).trans (fr1 Fm3 214 rfl)))))), (show (m38.1 215) = (m.1 215) from ((fr1 Fm38 215 rfl).trans ((fr1 Fm29 215 rfl).trans ((fr1 Fm23 215 rfl).trans ((fr1 Fm11 215 rfl).trans (fr1 Fm3 215 rfl)))))), (show (m38.1 216) = (m.1 216) from ((fr1 Fm38 216 rfl).trans ((fr1 Fm29 216 rfl).trans ((fr1 Fm23 216 rfl).trans ((fr1 Fm11 216 rfl).trans (fr1 Fm3 216 rfl)))))), (show (m38.1 217) = (m.1 217) from ((fr1 Fm38 217 rfl).trans ((fr1 Fm29 217 rfl).trans ((fr1 Fm23 217 rfl).trans ((fr1 Fm11 217 rfl).trans (fr1 Fm3 217 rfl)))))), (show (m38.1 223) = (m.1 223) from ((fr1 Fm38 223 rfl).trans ((fr1 Fm29 223 rfl).trans ((fr1 Fm23 223 rfl).trans ((fr1 Fm11 223 rfl).trans (fr1 Fm3 223 rfl)))))), (show (m38.1 219) = (m.1 219) from ((fr1 Fm38 219 rfl).trans ((fr1 Fm29 219 rfl).trans ((fr1 Fm23 219 rfl).trans ((fr1 Fm11 219 rfl).trans (fr1 Fm3 219 rfl))))))] at h169
              have pKP := h169
              replace h170 : SSp (m38.1 222) (m168.2 36) (m168.1 221) := h170
              rewrite [(show (m38.1 222) = (m23.1 222) from ((fr1 Fm38 222 rfl).trans (fr1 Fm29 222 rfl)))] at h170
              have hSS := h170
              replace h171 : NKp (m168.2 18) (m168.2 19) := h171
              have hNK := h171
              refine T_goto 208 rfl (fun _ => rfl) ?_
              refine T_ld 209 (.ref 178) rfl (fun _ => rfl) ?_
              refine K_gf 212 (.ref 6) rfl rfl kd_178 rfl rfl rfl ?_
              refine T_ld 214 (.int (i32 125)) rfl (fun _ => rfl) ?_
              refine T_callx 217 78 [.ref 6, .int (i32 125)] [] rfl (fun _ => rfl) rfl rfl (c_tx_expect w (mO m168 [] []) c N D (by omega) Tm168 125 ⟨by decide, by decide⟩) (fun rr181 k182 => ?_)
              rcases k182 with ⟨m183, Tm183, Fm183, h184, h185, rfl⟩ | ⟨xx188, m186, hx187, Tm186, Fm186, rfl⟩
              rotate_left
              · skip
                refine Or.inr ⟨_, _, _, _, rfl, ?_⟩
                exact Or.inr ⟨xx188, (mO m186 [] []), (hx187), Tm186, (fr_m (fr_s Fm186 (fr_m (fr_s Fm168 (fr_m (fr_s Fm38 (fr_m (fr_s Fm29 (fr_m (fr_s Fm23 (fr_m (fr_s Fm11 (fr_m (fr_s Fm3 (fr_m fr_0 rfl rfl) rfl rfl) rfl rfl) rfl rfl) rfl rfl) rfl rfl) rfl rfl) rfl rfl) rfl rfl) rfl rfl) rfl rfl) rfl rfl) rfl rfl) rfl rfl) rfl rfl), (show NKp (m186.2 18) (m186.2 19) by rewrite [(show (m186.2 18) = (m168.2 18) from (fr2 Fm186 18 rfl)), (show (m186.2 19) = (m168.2 19) from (fr2 Fm186 19 rfl))]; exact hNK), rfl⟩
              refine Or.inl ⟨_, _, _, _, rfl, ?_⟩
              refine K_nb (st' := []) rfl ?_
              have g189 : (-1) ≤ m183.1 206 ∧ m183.1 206 ≤ 65535 := Tm183.1 206
              have g190 : 0 ≤ m183.1 207 ∧ m183.1 207 ≤ 4001 := Tm183.1 207
              replace h184 : (m168.1 206) = (125 : Int) := h184
              replace h185 : (m168.1 213) = 0 := h185
              refine T_ret rfl (fun _ => rfl) ?_
              exact Or.inl ⟨(mO m183 [] []), Tm183, (fr_m (fr_s Fm183 (fr_m (fr_s Fm168 (fr_m (fr_s Fm38 (fr_m (fr_s Fm29 (fr_m (fr_s Fm23 (fr_m (fr_s Fm11 (fr_m (fr_s Fm3 (fr_m fr_0 rfl rfl) rfl rfl) rfl rfl) rfl rfl) rfl rfl) rfl rfl) rfl rfl) rfl rfl) rfl rfl) rfl rfl) rfl rfl) rfl rfl) rfl rfl) rfl rfl) rfl rfl), (show KPp (m183.1 203) (m183.2 8) (m183.2 9) (m.1 214) (m.1 215) (m.1 216) (m.1 217) (m183.1 221) (m.1 223) (m.1 219) by rewrite [(show (m183.1 203) = (m168.1 203) from (fr1 Fm183 203 rfl)), (show (m183.2 8) = (m168.2 8) from (fr2 Fm183 8 rfl)), (show (m183.2 9) = (m168.2 9) from (fr2 Fm183 9 rfl)), (show (m183.1 221) = (m168.1 221) from (fr1 Fm183 221 rfl))]; first | (exact pKP) | (exfalso; omega)), (show SSp (m183.1 222) (m183.2 36) (m183.1 221) by rewrite [(show (m183.1 222) = (m23.1 222) from ((fr1 Fm183 222 rfl).trans ((fr1 Fm168 222 rfl).trans ((fr1 Fm38 222 rfl).trans (fr1 Fm29 222 rfl))))), (show (m183.2 36) = (m168.2 36) from (fr2 Fm183 36 rfl)), (show (m183.1 221) = (m168.1 221) from (fr1 Fm183 221 rfl))]; first | (exact hSS) | (exfalso; omega)), (show NKp (m183.2 18) (m183.2 19) by rewrite [(show (m183.2 18) = (m168.2 18) from (fr2 Fm183 18 rfl)), (show (m183.2 19) = (m168.2 19) from (fr2 Fm183 19 rfl))]; first | (exact hNK) | (exfalso; omega)), rfl⟩
          · skip
            refine T_ld 144 (.ref 178) rfl (fun _ => rfl) ?_
            refine T_ld 145 (.int (i32 v10)) rfl (fun _ => rfl) ?_
            refine T_ld 146 (.int (i32 v37)) rfl (fun _ => rfl) ?_
            refine T_callx 149 90 [.ref 178, .int (i32 v10), .int (i32 v37)] [] rfl (fun _ => rfl) rfl rfl (c_rd_extract w (mO m38 [] []) c N D (by omega) Tm38 v10 v37 (r32 (by omega) (by omega)) (r32 (by omega) (by omega)) (show KPp (m38.1 203) (m38.2 8) (m38.2 9) (m38.1 214) (m38.1 215) (m38.1 216) (m38.1 217) (m38.1 221) (m38.1 223) (m38.1 219) by rewrite [(show (m38.1 203) = (m11.1 203) from ((fr1 Fm38 203 rfl).trans ((fr1 Fm29 203 rfl).trans (fr1 Fm23 203 rfl)))), (show (m38.2 8) = (m11.2 8) from ((fr2 Fm38 8 rfl).trans ((fr2 Fm29 8 rfl).trans (fr2 Fm23 8 rfl)))), (show (m38.2 9) = (m11.2 9) from ((fr2 Fm38 9 rfl).trans ((fr2 Fm29 9 rfl).trans (fr2 Fm23 9 rfl)))), (show (m38.1 214) = (m.1 214) from ((fr1 Fm38 214 rfl).trans ((fr1 Fm29 214 rfl).trans ((fr1 Fm23 214 rfl).trans ((fr1 Fm11 214 rfl).trans (fr1 Fm3 214 rfl)))))), (show (m38.1 215) = (m.1 215) from ((fr1 Fm38 215 rfl).trans ((fr1 Fm29 215 rfl).trans ((fr1 Fm23 215 rfl).trans ((fr1 Fm11 215 rfl).trans (fr1 Fm3 215 rfl)))))), (show (m38.1 216) = (m.1 216) from ((fr1 Fm38 216 rfl).trans ((fr1 Fm29 216 rfl).trans ((fr1 Fm23 216 rfl).trans ((fr1 Fm11 216 rfl).trans (fr1 Fm3 216 rfl)))))), (show (m38.1 217) = (m.1 217) from ((fr1 Fm38 217 rfl).trans ((fr1 Fm29 217 rfl).trans ((fr1 Fm23 217 rfl).trans ((fr1 Fm11 217 rfl).trans (fr1 Fm3 217 rfl)))))), (show (m38.1 221) = (m11.1 221) from ((fr1 Fm38 221 rfl).trans ((fr1 Fm29 221 rfl).trans (fr1 Fm23 221 rfl)))), (show (m38.1 223) = (m.1 223) from ((fr1 Fm38 223 rfl).trans ((fr1 Fm29 223 rfl).trans ((fr1 Fm23 223 rfl).trans ((fr1 Fm11 223 rfl).trans (fr1 Fm3 223 rfl)))))), (show (m38.1 219) = (m.1 219) from ((fr1 Fm38 219 rfl).trans ((fr1 Fm29 219 rfl).trans ((fr1 Fm23 219 rfl).trans ((fr1 Fm11 219 rfl).trans (fr1 Fm3 219 rfl))))))]; exact pKP) (show 0 ≤ v10 ∧ v10 ≤ 15 by omega) (show 0 ≤ v37 ∧ v37 ≤ 6 by omega)) (fun rr191 k192 => ?_)
            rcases k192 with ⟨m193, Tm193, Fm193, rfl⟩ | ⟨xx196, m194, hx195, Tm194, Fm194, rfl⟩
            rotate_left
            · skip
              refine Or.inr ⟨_, _, _, _, rfl, ?_⟩
              exact Or.inr ⟨xx196, (mO m194 [] []), (hx195), Tm194, (fr_m (fr_s Fm194 (fr_m (fr_s Fm38 (fr_m (fr_s Fm29 (fr_m (fr_s Fm23 (fr_m (fr_s Fm11 (fr_m (fr_s Fm3 (fr_m fr_0 rfl rfl) rfl rfl) rfl rfl) rfl rfl) rfl rfl) rfl rfl) rfl rfl) rfl rfl) rfl rfl) rfl rfl) rfl rfl) rfl rfl) rfl rfl), (show NKp (m194.2 18) (m194.2 19) by rewrite [(show (m194.2 18) = (m.2 18) from ((fr2 Fm194 18 rfl).trans ((fr2 Fm38 18 rfl).trans ((fr2 Fm29 18 rfl).trans ((fr2 Fm23 18 rfl).trans ((fr2 Fm11 18 rfl).trans (fr2 Fm3 18 rfl))))))), (show (m194.2 19) = (m.2 19) from ((fr2 Fm194 19 rfl).trans ((fr2 Fm38 19 rfl).trans ((fr2 Fm29 19 rfl).trans ((fr2 Fm23 19 rfl).trans ((fr2 Fm11 19 rfl).trans (fr2 Fm3 19 rfl)))))))]; exact hNK), rfl⟩
            refine Or.inl ⟨_, _, _, _, rfl, ?_⟩
            refine K_nb (st' := []) rfl ?_
            have g197 : (-1) ≤ m193.1 206 ∧ m193.1 206 ≤ 65535 := Tm193.1 206
            have g198 : 0 ≤ m193.1 207 ∧ m193.1 207 ≤ 4001 := Tm193.1 207
            refine T_iinc 152 [(3, .int (i32 (v37 + 1))), (0, .ref 178), (2, .int (i32 v10))] rfl rfl (by decide) rfl rfl ?_
            refine T_goto 124 rfl (fun _ => rfl) ?_
            refine Tm_lv (a := [(0, .ref 178), (2, .int (i32 v10)), (3, .int (i32 (v37 + 1)))]) rfl rfl ⟨rfl, rfl, rfl, trivial⟩ ?_
            exact ih46 (v37 + 1) (mO m193 [] []) (r32 (by omega) (by omega)) Tm193 (fr_m (fr_s Fm193 (fr_m (fr_s Fm38 (fr_m fr_0 rfl rfl) rfl rfl) rfl rfl) rfl rfl) rfl rfl) (show 0 ≤ (v37 + 1) by omega) (show 0 ≤ (v37 + 1) ∧ (v37 + 1) ≤ 7 by omega) (show 12 - (v37 + 1) < (n45 : Int) by omega)
    refine Tm_lv (a := [(0, .ref 178), (2, .int (i32 v10)), (3, .int (i32 0))]) rfl rfl ⟨rfl, rfl, rfl, trivial⟩ ?_
    exact L124_39 ((12 - (0 : Int) : Int) + 1).toNat 0 (mO m29 [] []) ⟨by decide, by decide⟩ Tm29 (fr_m fr_0 rfl rfl) (show 0 ≤ (0 : Int) by omega) (show 0 ≤ (0 : Int) ∧ (0 : Int) ≤ 7 by omega) (show 12 - (0 : Int) < ((((12 - (0 : Int) : Int) + 1).toNat : Nat) : Int) by omega)
  refine T_ld 16 (.ref 178) rfl (fun _ => rfl) ?_
  refine K_gf 19 (.ref 6) rfl rfl kd_178 rfl rfl rfl ?_
  refine K_gf 22 (.int (i32 (m3.1 206))) rfl rfl kd_6 rfl rfl rfl ?_
  refine T_ld 25 (.int (i32 256)) rfl (fun _ => rfl) ?_
  refine T_icmp 41 28 rfl rfl rfl (r32 (by omega) (by omega)) ⟨by decide, by decide⟩ (fun (h199 : (m3.1 206) ≠ 256) => ?_) (fun (h199 : ¬ ((m3.1 206) ≠ 256)) => ?_)
  · skip
    refine T_ld 42 (.int (i32 (-1))) rfl (fun _ => rfl) ?_
    refine T_sto 43 [(2, .int (i32 (-1))), (1, .int (i32 (m3.1 207))), (0, .ref 178)] rfl (fun _ => rfl) ?_
    refine T_ld 44 (.int (i32 (-1))) rfl (fun _ => rfl) ?_
    refine T_if 76 47 rfl rfl rfl ⟨by decide, by decide⟩ (fun _ => ?_) (fun h200 => absurd (show ((-1) : Int) < 0 by decide) h200)
    refine T_ld 77 (.ref 178) rfl (fun _ => rfl) ?_
    refine K_gf 80 (.ref 6) rfl rfl kd_178 rfl rfl rfl ?_
    refine T_ld 83 (.int (i32 304)) rfl (fun _ => rfl) ?_
    refine T_ld 84 (.ref 178) rfl (fun _ => rfl) ?_
    refine K_gf 87 (.ref 31) rfl rfl kd_178 rfl rfl rfl ?_
    refine K_gf 90 (.int (i32 (m.1 221))) rfl rfl kd_31 rfl (kval_c2 (k := 221) (F := fun x => .int (i32 x)) rfl (show (m3.1 221) = (m.1 221) from (fr1 Fm3 221 rfl))) rfl ?_
    refine T_ld 92 (.int (i32 16)) rfl (fun _ => rfl) ?_
    refine T_callx 95 75 [.ref 6, .int (i32 304), .int (i32 (m.1 221)), .int (i32 16)] [] rfl (fun _ => rfl) rfl rfl (c_tx_makeNew w (mO m3 [] []) c N D (by omega) Tm3 304 (m.1 221) 16 ⟨by decide, by decide⟩ (r32 (by omega) (by omega)) ⟨by decide, by decide⟩ (show 0 ≤ (304 : Int) ∧ (304 : Int) ≤ 310 by omega) (show 0 ≤ (m.1 221) ∧ (16 : Int) ≤ 16 by omega)) (fun rr201 k202 => ?_)
    rcases k202 with ⟨m203, Tm203, Fm203, h204, h205, h206, rfl⟩ | ⟨xx209, m207, hx208, Tm207, Fm207, rfl⟩
    rotate_left
    · skip
      refine Or.inr ⟨_, _, _, _, rfl, ?_⟩
      exact Or.inr ⟨xx209, (mO m207 [] []), (hx208), Tm207, (fr_m (fr_s Fm207 (fr_m (fr_s Fm3 (fr_m fr_0 rfl rfl) rfl rfl) rfl rfl) rfl rfl) rfl rfl), (show NKp (m207.2 18) (m207.2 19) by rewrite [(show (m207.2 18) = (m.2 18) from ((fr2 Fm207 18 rfl).trans (fr2 Fm3 18 rfl))), (show (m207.2 19) = (m.2 19) from ((fr2 Fm207 19 rfl).trans (fr2 Fm3 19 rfl)))]; exact hNK), rfl⟩
    refine Or.inl ⟨_, _, _, _, rfl, ?_⟩
    refine K_nb (st' := []) rfl ?_
    have g210 : 0 ≤ m203.1 203 ∧ m203.1 203 ≤ 90 := Tm203.1 203
    have g211 : (-1) ≤ m203.1 206 ∧ m203.1 206 ≤ 65535 := Tm203.1 206
    have g212 : 0 ≤ m203.1 207 ∧ m203.1 207 ≤ 4001 := Tm203.1 207
    replace h204 : (m.1 221) < (16 : Int) := h204
    replace h205 : KMk (m3.1 203) (m203.1 203) (m3.2 8) (m203.2 8) (m3.2 9) (m203.2 9) (304 : Int) (m.1 221) := h205
    rewrite [(show (m3.1 203) = (m.1 203) from (fr1 Fm3 203 rfl)), (show (m3.2 8) = (m.2 8) from (fr2 Fm3 8 rfl)), (show (m3.2 9) = (m.2 9) from (fr2 Fm3 9 rfl))] at h205
    have hMk := h205
    replace h206 : (m3.1 213) = 0 := h206
    rewrite [(show (m3.1 213) = (m.1 213) from (fr1 Fm3 213 rfl))] at h206
    refine T_ld 96 (.ref 178) rfl (fun _ => rfl) ?_
    refine K_gf 99 (.ref 31) rfl rfl kd_178 rfl rfl rfl ?_
    refine T_ld 100 (.int (i32 (m3.1 207))) rfl (fun _ => rfl) ?_
    refine T_callx 103 88 [.ref 31, .int (i32 (m3.1 207))] [] rfl (fun _ => rfl) rfl rfl (c_ss_add w (mO m203 [] []) c N D (by omega) Tm203 (m3.1 207) (r32 (by omega) (by omega)) (show (m203.1 221) ≤ 15 by rewrite [(show (m203.1 221) = (m.1 221) from ((fr1 Fm203 221 rfl).trans (fr1 Fm3 221 rfl)))]; omega) (show 0 ≤ (m3.1 207) ∧ (m3.1 207) ≤ 4001 by omega)) (fun rr213 k214 => ?_)
    obtain ⟨m215, sa, Tm215, Fm215, g216, h217, h218, h219, rfl⟩ := k214
    refine Or.inl ⟨_, _, _, _, rfl, ?_⟩
    refine K_nb (st' := [.int (i32 sa)]) rfl ?_
    obtain ⟨g216a, g216b⟩ := g216
    have g220 : 0 ≤ m215.1 221 ∧ m215.1 221 ≤ 16 := Tm215.1 221
    replace h217 : sa = (m203.1 221) := h217
    rewrite [(show (m203.1 221) = (m.1 221) from ((fr1 Fm203 221 rfl).trans (fr1 Fm3 221 rfl)))] at h217
    replace h218 : (m215.1 221) = (m203.1 221) + 1 := h218
    rewrite [(show (m203.1 221) = (m.1 221) from ((fr1 Fm203 221 rfl).trans (fr1 Fm3 221 rfl)))] at h218
    replace h219 : (m215.2 36) = upI (m203.2 36) (m203.1 221) (-1) := h219
    rewrite [(show (m203.2 36) = (m.2 36) from ((fr2 Fm203 36 rfl).trans (fr2 Fm3 36 rfl))), (show (m203.1 221) = (m.1 221) from ((fr1 Fm203 221 rfl).trans (fr1 Fm3 221 rfl)))] at h219
    have hSa := h219
    have pKP : KPp (m203.1 203) (m203.2 8) (m203.2 9) (m.1 214) (m.1 215) (m.1 216) (m.1 217) (m215.1 221) (m.1 223) (m.1 219) := KPp_mk pKP hMk (by omega) (by omega) (by omega) (by omega) (by omega) (by omega) (by omega) (by omega)
    have hSS : SSp (m.1 222) (m215.2 36) (m215.1 221) := SS_add hSS (by omega) hSa (by omega)
    refine T_sto 104 [(2, .int (i32 sa)), (1, .int (i32 (m3.1 207))), (0, .ref 178)] rfl (fun _ => rfl) ?_
    refine Tm_lv (a := [(0, .ref 178), (1, .int (i32 (m3.1 207))), (2, .int (i32 sa))]) rfl rfl ⟨rfl, rfl, rfl, trivial⟩ ?_
    exact J104_12 sa (mO m215 [] []) (r32 (by omega) (by omega)) Tm215 (fr_m (fr_s Fm215 (fr_m (fr_s Fm203 (fr_m fr_0 rfl rfl) rfl rfl) rfl rfl) rfl rfl) rfl rfl) (show KPp (m215.1 203) (m215.2 8) (m215.2 9) (m.1 214) (m.1 215) (m.1 216) (m.1 217) (m215.1 221) (m.1 223) (m.1 219) by rewrite [(show (m215.1 203) = (m203.1 203) from (fr1 Fm215 203 rfl)), (show (m215.2 8) = (m203.2 8) from (fr2 Fm215 8 rfl)), (show (m215.2 9) = (m203.2 9) from (fr2 Fm215 9 rfl))]; exact pKP) (show SSp (m.1 222) (m215.2 36) (m215.1 221) by exact hSS) (show 0 ≤ sa ∧ sa < (m215.1 221) by omega) (show (m215.2 36) sa = -1 by first | omega | exact up_at hSa (by omega))
  · skip
    refine T_ld 29 (.ref 178) rfl (fun _ => rfl) ?_
    refine K_gf 32 (.ref 6) rfl rfl kd_178 rfl rfl rfl ?_
    refine T_ld 35 (.int (i32 304)) rfl (fun _ => rfl) ?_
    refine T_callx 38 84 [.ref 6, .int (i32 304)] [] rfl (fun _ => rfl) rfl rfl (c_tx_indexOf w (mO m3 [] []) c N D (by omega) Tm3 304 ⟨by decide, by decide⟩) (fun rr221 k222 => ?_)
    obtain ⟨io, g223, h224, rfl⟩ := k222
    refine Or.inl ⟨_, _, _, _, rfl, ?_⟩
    refine T_ns (st' := [.int (i32 io)]) rfl ?_
    obtain ⟨g223a, g223b⟩ := g223
    replace h224 : io = -1 ∨ KNo (m3.1 203) (m3.2 8) (m3.2 9) (304 : Int) io := h224
    rewrite [(show (m3.1 203) = (m.1 203) from (fr1 Fm3 203 rfl)), (show (m3.2 8) = (m.2 8) from (fr2 Fm3 8 rfl)), (show (m3.2 9) = (m.2 9) from (fr2 Fm3 9 rfl))] at h224
    have hIo := h224
    refine T_goto 42 rfl (fun _ => rfl) ?_
    refine T_sto 43 [(2, .int (i32 io)), (1, .int (i32 (m3.1 207))), (0, .ref 178)] rfl (fun _ => rfl) ?_
    refine T_ld 44 (.int (i32 io)) rfl (fun _ => rfl) ?_
    refine T_if 76 47 rfl rfl rfl (r32 (by omega) (by omega)) (fun (h225 : io < 0) => ?_) (fun (h225 : ¬ (io < 0)) => ?_)
    · skip
      refine T_ld 77 (.ref 178) rfl (fun _ => rfl) ?_
      refine K_gf 80 (.ref 6) rfl rfl kd_178 rfl rfl rfl ?_
      refine T_ld 83 (.int (i32 304)) rfl (fun _ => rfl) ?_
      refine T_ld 84 (.ref 178) rfl (fun _ => rfl) ?_
      refine K_gf 87 (.ref 31) rfl rfl kd_178 rfl rfl rfl ?_
      refine K_gf 90 (.int (i32 (m.1 221))) rfl rfl kd_31 rfl (kval_c2 (k := 221) (F := fun x => .int (i32 x)) rfl (show (m3.1 221) = (m.1 221) from (fr1 Fm3 221 rfl))) rfl ?_
      refine T_ld 92 (.int (i32 16)) rfl (fun _ => rfl) ?_
      refine T_callx 95 75 [.ref 6, .int (i32 304), .int (i32 (m.1 221)), .int (i32 16)] [] rfl (fun _ => rfl) rfl rfl (c_tx_makeNew w (mO m3 [] []) c N D (by omega) Tm3 304 (m.1 221) 16 ⟨by decide, by decide⟩ (r32 (by omega) (by omega)) ⟨by decide, by decide⟩ (show 0 ≤ (304 : Int) ∧ (304 : Int) ≤ 310 by omega) (show 0 ≤ (m.1 221) ∧ (16 : Int) ≤ 16 by omega)) (fun rr226 k227 => ?_)
      rcases k227 with ⟨m228, Tm228, Fm228, h229, h230, h231, rfl⟩ | ⟨xx234, m232, hx233, Tm232, Fm232, rfl⟩
      rotate_left
      · skip
        refine Or.inr ⟨_, _, _, _, rfl, ?_⟩
        exact Or.inr ⟨xx234, (mO m232 [] []), (hx233), Tm232, (fr_m (fr_s Fm232 (fr_m (fr_s Fm3 (fr_m fr_0 rfl rfl) rfl rfl) rfl rfl) rfl rfl) rfl rfl), (show NKp (m232.2 18) (m232.2 19) by rewrite [(show (m232.2 18) = (m.2 18) from ((fr2 Fm232 18 rfl).trans (fr2 Fm3 18 rfl))), (show (m232.2 19) = (m.2 19) from ((fr2 Fm232 19 rfl).trans (fr2 Fm3 19 rfl)))]; exact hNK), rfl⟩
      refine Or.inl ⟨_, _, _, _, rfl, ?_⟩
      refine K_nb (st' := []) rfl ?_
      have g235 : 0 ≤ m228.1 203 ∧ m228.1 203 ≤ 90 := Tm228.1 203
      have g236 : (-1) ≤ m228.1 206 ∧ m228.1 206 ≤ 65535 := Tm228.1 206
      have g237 : 0 ≤ m228.1 207 ∧ m228.1 207 ≤ 4001 := Tm228.1 207
      replace h229 : (m.1 221) < (16 : Int) := h229
      replace h230 : KMk (m3.1 203) (m228.1 203) (m3.2 8) (m228.2 8) (m3.2 9) (m228.2 9) (304 : Int) (m.1 221) := h230
      rewrite [(show (m3.1 203) = (m.1 203) from (fr1 Fm3 203 rfl)), (show (m3.2 8) = (m.2 8) from (fr2 Fm3 8 rfl)), (show (m3.2 9) = (m.2 9) from (fr2 Fm3 9 rfl))] at h230
      have hMk := h230
      replace h231 : (m3.1 213) = 0 := h231
      rewrite [(show (m3.1 213) = (m.1 213) from (fr1 Fm3 213 rfl))] at h231
      refine T_ld 96 (.ref 178) rfl (fun _ => rfl) ?_
      refine K_gf 99 (.ref 31) rfl rfl kd_178 rfl rfl rfl ?_
      refine T_ld 100 (.int (i32 (m3.1 207))) rfl (fun _ => rfl) ?_
      refine T_callx 103 88 [.ref 31, .int (i32 (m3.1 207))] [] rfl (fun _ => rfl) rfl rfl (c_ss_add w (mO m228 [] []) c N D (by omega) Tm228 (m3.1 207) (r32 (by omega) (by omega)) (show (m228.1 221) ≤ 15 by rewrite [(show (m228.1 221) = (m.1 221) from ((fr1 Fm228 221 rfl).trans (fr1 Fm3 221 rfl)))]; omega) (show 0 ≤ (m3.1 207) ∧ (m3.1 207) ≤ 4001 by omega)) (fun rr238 k239 => ?_)
      obtain ⟨m240, sa, Tm240, Fm240, g241, h242, h243, h244, rfl⟩ := k239
      refine Or.inl ⟨_, _, _, _, rfl, ?_⟩
      refine K_nb (st' := [.int (i32 sa)]) rfl ?_
      obtain ⟨g241a, g241b⟩ := g241
      have g245 : 0 ≤ m240.1 221 ∧ m240.1 221 ≤ 16 := Tm240.1 221
      replace h242 : sa = (m228.1 221) := h242
      rewrite [(show (m228.1 221) = (m.1 221) from ((fr1 Fm228 221 rfl).trans (fr1 Fm3 221 rfl)))] at h242
      replace h243 : (m240.1 221) = (m228.1 221) + 1 := h243
      rewrite [(show (m228.1 221) = (m.1 221) from ((fr1 Fm228 221 rfl).trans (fr1 Fm3 221 rfl)))] at h243
      replace h244 : (m240.2 36) = upI (m228.2 36) (m228.1 221) (-1) := h244
      rewrite [(show (m228.2 36) = (m.2 36) from ((fr2 Fm228 36 rfl).trans (fr2 Fm3 36 rfl))), (show (m228.1 221) = (m.1 221) from ((fr1 Fm228 221 rfl).trans (fr1 Fm3 221 rfl)))] at h244
      have hSa := h244
      have pKP : KPp (m228.1 203) (m228.2 8) (m228.2 9) (m.1 214) (m.1 215) (m.1 216) (m.1 217) (m240.1 221) (m.1 223) (m.1 219) := KPp_mk pKP hMk (by omega) (by omega) (by omega) (by omega) (by omega) (by omega) (by omega) (by omega)
      have hSS : SSp (m.1 222) (m240.2 36) (m240.1 221) := SS_add hSS (by omega) hSa (by omega)
      refine T_sto 104 [(2, .int (i32 sa)), (1, .int (i32 (m3.1 207))), (0, .ref 178)] rfl (fun _ => rfl) ?_
      refine Tm_lv (a := [(0, .ref 178), (1, .int (i32 (m3.1 207))), (2, .int (i32 sa))]) rfl rfl ⟨rfl, rfl, rfl, trivial⟩ ?_
      exact J104_12 sa (mO m240 [] []) (r32 (by omega) (by omega)) Tm240 (fr_m (fr_s Fm240 (fr_m (fr_s Fm228 (fr_m fr_0 rfl rfl) rfl rfl) rfl rfl) rfl rfl) rfl rfl) (show KPp (m240.1 203) (m240.2 8) (m240.2 9) (m.1 214) (m.1 215) (m.1 216) (m.1 217) (m240.1 221) (m.1 223) (m.1 219) by rewrite [(show (m240.1 203) = (m228.1 203) from (fr1 Fm240 203 rfl)), (show (m240.2 8) = (m228.2 8) from (fr2 Fm240 8 rfl)), (show (m240.2 9) = (m228.2 9) from (fr2 Fm240 9 rfl))]; exact pKP) (show SSp (m.1 222) (m240.2 36) (m240.1 221) by exact hSS) (show 0 ≤ sa ∧ sa < (m240.1 221) by omega) (show (m240.2 36) sa = -1 by first | omega | exact up_at hSa (by omega))
    · skip
      refine T_ld 48 (.int (i32 io)) rfl (fun _ => rfl) ?_
      refine T_ld 50 (.int (i32 16)) rfl (fun _ => rfl) ?_
      refine T_icmp 76 53 rfl rfl rfl (r32 (by omega) (by omega)) ⟨by decide, by decide⟩ (fun (h246 : (16 : Int) ≤ io) => ?_) (fun (h246 : ¬ ((16 : Int) ≤ io)) => ?_)
      · skip
        refine T_ld 77 (.ref 178) rfl (fun _ => rfl) ?_
        refine K_gf 80 (.ref 6) rfl rfl kd_178 rfl rfl rfl ?_
        refine T_ld 83 (.int (i32 304)) rfl (fun _ => rfl) ?_
        refine T_ld 84 (.ref 178) rfl (fun _ => rfl) ?_
        refine K_gf 87 (.ref 31) rfl rfl kd_178 rfl rfl rfl ?_
        refine K_gf 90 (.int (i32 (m.1 221))) rfl rfl kd_31 rfl (kval_c2 (k := 221) (F := fun x => .int (i32 x)) rfl (show (m3.1 221) = (m.1 221) from (fr1 Fm3 221 rfl))) rfl ?_
        refine T_ld 92 (.int (i32 16)) rfl (fun _ => rfl) ?_
        refine T_callx 95 75 [.ref 6, .int (i32 304), .int (i32 (m.1 221)), .int (i32 16)] [] rfl (fun _ => rfl) rfl rfl (c_tx_makeNew w (mO m3 [] []) c N D (by omega) Tm3 304 (m.1 221) 16 ⟨by decide, by decide⟩ (r32 (by omega) (by omega)) ⟨by decide, by decide⟩ (show 0 ≤ (304 : Int) ∧ (304 : Int) ≤ 310 by omega) (show 0 ≤ (m.1 221) ∧ (16 : Int) ≤ 16 by omega)) (fun rr247 k248 => ?_)
        rcases k248 with ⟨m249, Tm249, Fm249, h250, h251, h252, rfl⟩ | ⟨xx255, m253, hx254, Tm253, Fm253, rfl⟩
        rotate_left
        · skip
          refine Or.inr ⟨_, _, _, _, rfl, ?_⟩
          exact Or.inr ⟨xx255, (mO m253 [] []), (hx254), Tm253, (fr_m (fr_s Fm253 (fr_m (fr_s Fm3 (fr_m fr_0 rfl rfl) rfl rfl) rfl rfl) rfl rfl) rfl rfl), (show NKp (m253.2 18) (m253.2 19) by rewrite [(show (m253.2 18) = (m.2 18) from ((fr2 Fm253 18 rfl).trans (fr2 Fm3 18 rfl))), (show (m253.2 19) = (m.2 19) from ((fr2 Fm253 19 rfl).trans (fr2 Fm3 19 rfl)))]; exact hNK), rfl⟩
        refine Or.inl ⟨_, _, _, _, rfl, ?_⟩
        refine K_nb (st' := []) rfl ?_
        have g256 : 0 ≤ m249.1 203 ∧ m249.1 203 ≤ 90 := Tm249.1 203
        have g257 : (-1) ≤ m249.1 206 ∧ m249.1 206 ≤ 65535 := Tm249.1 206
        have g258 : 0 ≤ m249.1 207 ∧ m249.1 207 ≤ 4001 := Tm249.1 207
        replace h250 : (m.1 221) < (16 : Int) := h250
        replace h251 : KMk (m3.1 203) (m249.1 203) (m3.2 8) (m249.2 8) (m3.2 9) (m249.2 9) (304 : Int) (m.1 221) := h251
        rewrite [(show (m3.1 203) = (m.1 203) from (fr1 Fm3 203 rfl)), (show (m3.2 8) = (m.2 8) from (fr2 Fm3 8 rfl)), (show (m3.2 9) = (m.2 9) from (fr2 Fm3 9 rfl))] at h251
        have hMk := h251
        replace h252 : (m3.1 213) = 0 := h252
        rewrite [(show (m3.1 213) = (m.1 213) from (fr1 Fm3 213 rfl))] at h252
        refine T_ld 96 (.ref 178) rfl (fun _ => rfl) ?_
        refine K_gf 99 (.ref 31) rfl rfl kd_178 rfl rfl rfl ?_
        refine T_ld 100 (.int (i32 (m3.1 207))) rfl (fun _ => rfl) ?_
        refine T_callx 103 88 [.ref 31, .int (i32 (m3.1 207))] [] rfl (fun _ => rfl) rfl rfl (c_ss_add w (mO m249 [] []) c N D (by omega) Tm249 (m3.1 207) (r32 (by omega) (by omega)) (show (m249.1 221) ≤ 15 by rewrite [(show (m249.1 221) = (m.1 221) from ((fr1 Fm249 221 rfl).trans (fr1 Fm3 221 rfl)))]; omega) (show 0 ≤ (m3.1 207) ∧ (m3.1 207) ≤ 4001 by omega)) (fun rr259 k260 => ?_)
        obtain ⟨m261, sa, Tm261, Fm261, g262, h263, h264, h265, rfl⟩ := k260
        refine Or.inl ⟨_, _, _, _, rfl, ?_⟩
        refine K_nb (st' := [.int (i32 sa)]) rfl ?_
        obtain ⟨g262a, g262b⟩ := g262
        have g266 : 0 ≤ m261.1 221 ∧ m261.1 221 ≤ 16 := Tm261.1 221
        replace h263 : sa = (m249.1 221) := h263
        rewrite [(show (m249.1 221) = (m.1 221) from ((fr1 Fm249 221 rfl).trans (fr1 Fm3 221 rfl)))] at h263
        replace h264 : (m261.1 221) = (m249.1 221) + 1 := h264
        rewrite [(show (m249.1 221) = (m.1 221) from ((fr1 Fm249 221 rfl).trans (fr1 Fm3 221 rfl)))] at h264
        replace h265 : (m261.2 36) = upI (m249.2 36) (m249.1 221) (-1) := h265
        rewrite [(show (m249.2 36) = (m.2 36) from ((fr2 Fm249 36 rfl).trans (fr2 Fm3 36 rfl))), (show (m249.1 221) = (m.1 221) from ((fr1 Fm249 221 rfl).trans (fr1 Fm3 221 rfl)))] at h265
        have hSa := h265
        have pKP : KPp (m249.1 203) (m249.2 8) (m249.2 9) (m.1 214) (m.1 215) (m.1 216) (m.1 217) (m261.1 221) (m.1 223) (m.1 219) := KPp_mk pKP hMk (by omega) (by omega) (by omega) (by omega) (by omega) (by omega) (by omega) (by omega)
        have hSS : SSp (m.1 222) (m261.2 36) (m261.1 221) := SS_add hSS (by omega) hSa (by omega)
        refine T_sto 104 [(2, .int (i32 sa)), (1, .int (i32 (m3.1 207))), (0, .ref 178)] rfl (fun _ => rfl) ?_
        refine Tm_lv (a := [(0, .ref 178), (1, .int (i32 (m3.1 207))), (2, .int (i32 sa))]) rfl rfl ⟨rfl, rfl, rfl, trivial⟩ ?_
        exact J104_12 sa (mO m261 [] []) (r32 (by omega) (by omega)) Tm261 (fr_m (fr_s Fm261 (fr_m (fr_s Fm249 (fr_m fr_0 rfl rfl) rfl rfl) rfl rfl) rfl rfl) rfl rfl) (show KPp (m261.1 203) (m261.2 8) (m261.2 9) (m.1 214) (m.1 215) (m.1 216) (m.1 217) (m261.1 221) (m.1 223) (m.1 219) by rewrite [(show (m261.1 203) = (m249.1 203) from (fr1 Fm261 203 rfl)), (show (m261.2 8) = (m249.2 8) from (fr2 Fm261 8 rfl)), (show (m261.2 9) = (m249.2 9) from (fr2 Fm261 9 rfl))]; exact pKP) (show SSp (m.1 222) (m261.2 36) (m261.1 221) by exact hSS) (show 0 ≤ sa ∧ sa < (m261.1 221) by omega) (show (m261.2 36) sa = -1 by first | omega | exact up_at hSa (by omega))
      · skip
        refine T_ld 54 (.ref 178) rfl (fun _ => rfl) ?_
        refine K_gf 57 (.ref 31) rfl rfl kd_178 rfl rfl rfl ?_
        refine K_gf 60 (.ref 42) rfl rfl kd_31 rfl rfl rfl ?_
        refine T_ld 61 (.int (i32 io)) rfl (fun _ => rfl) ?_
        refine K_iald 62 36 (m.2 36) rfl rfl rfl (by omega) (show io < (16 : Int) by omega) (show (m3.2 36) = (m.2 36) from (fr2 Fm3 36 rfl)) ?_
        have e267 : (-1) ≤ (m.2 36) io ∧ (m.2 36) io ≤ 4001 := (hT.2.1 36) io
        refine T_ld 63 (.int (i32 (-1))) rfl (fun _ => rfl) ?_
        refine T_icmp 76 66 rfl rfl rfl (r32 (by omega) (by omega)) ⟨by decide, by decide⟩ (fun (h268 : (m.2 36) io ≠ (-1)) => ?_) (fun (h268 : ¬ ((m.2 36) io ≠ (-1))) => ?_)
        · skip
          refine T_ld 77 (.ref 178) rfl (fun _ => rfl) ?_
          refine K_gf 80 (.ref 6) rfl rfl kd_178 rfl rfl rfl ?_
          refine T_ld 83 (.int (i32 304)) rfl (fun _ => rfl) ?_
          refine T_ld 84 (.ref 178) rfl (fun _ => rfl) ?_
          refine K_gf 87 (.ref 31) rfl rfl kd_178 rfl rfl rfl ?_
          refine K_gf 90 (.int (i32 (m.1 221))) rfl rfl kd_31 rfl (kval_c2 (k := 221) (F := fun x => .int (i32 x)) rfl (show (m3.1 221) = (m.1 221) from (fr1 Fm3 221 rfl))) rfl ?_
          refine T_ld 92 (.int (i32 16)) rfl (fun _ => rfl) ?_
          refine T_callx 95 75 [.ref 6, .int (i32 304), .int (i32 (m.1 221)), .int (i32 16)] [] rfl (fun _ => rfl) rfl rfl (c_tx_makeNew w (mO m3 [] []) c N D (by omega) Tm3 304 (m.1 221) 16 ⟨by decide, by decide⟩ (r32 (by omega) (by omega)) ⟨by decide, by decide⟩ (show 0 ≤ (304 : Int) ∧ (304 : Int) ≤ 310 by omega) (show 0 ≤ (m.1 221) ∧ (16 : Int) ≤ 16 by omega)) (fun rr269 k270 => ?_)
          rcases k270 with ⟨m271, Tm271, Fm271, h272, h273, h274, rfl⟩ | ⟨xx277, m275, hx276, Tm275, Fm275, rfl⟩
          rotate_left
          · skip
            refine Or.inr ⟨_, _, _, _, rfl, ?_⟩
            exact Or.inr ⟨xx277, (mO m275 [] []), (hx276), Tm275, (fr_m (fr_s Fm275 (fr_m (fr_s Fm3 (fr_m fr_0 rfl rfl) rfl rfl) rfl rfl) rfl rfl) rfl rfl), (show NKp (m275.2 18) (m275.2 19) by rewrite [(show (m275.2 18) = (m.2 18) from ((fr2 Fm275 18 rfl).trans (fr2 Fm3 18 rfl))), (show (m275.2 19) = (m.2 19) from ((fr2 Fm275 19 rfl).trans (fr2 Fm3 19 rfl)))]; exact hNK), rfl⟩
          refine Or.inl ⟨_, _, _, _, rfl, ?_⟩
          refine K_nb (st' := []) rfl ?_
          have g278 : 0 ≤ m271.1 203 ∧ m271.1 203 ≤ 90 := Tm271.1 203
          have g279 : (-1) ≤ m271.1 206 ∧ m271.1 206 ≤ 65535 := Tm271.1 206
          have g280 : 0 ≤ m271.1 207 ∧ m271.1 207 ≤ 4001 := Tm271.1 207
          replace h272 : (m.1 221) < (16 : Int) := h272
          replace h273 : KMk (m3.1 203) (m271.1 203) (m3.2 8) (m271.2 8) (m3.2 9) (m271.2 9) (304 : Int) (m.1 221) := h273
          rewrite [(show (m3.1 203) = (m.1 203) from (fr1 Fm3 203 rfl)), (show (m3.2 8) = (m.2 8) from (fr2 Fm3 8 rfl)), (show (m3.2 9) = (m.2 9) from (fr2 Fm3 9 rfl))] at h273
          have hMk := h273
          replace h274 : (m3.1 213) = 0 := h274
          rewrite [(show (m3.1 213) = (m.1 213) from (fr1 Fm3 213 rfl))] at h274
          refine T_ld 96 (.ref 178) rfl (fun _ => rfl) ?_
          refine K_gf 99 (.ref 31) rfl rfl kd_178 rfl rfl rfl ?_
          refine T_ld 100 (.int (i32 (m3.1 207))) rfl (fun _ => rfl) ?_
          refine T_callx 103 88 [.ref 31, .int (i32 (m3.1 207))] [] rfl (fun _ => rfl) rfl rfl (c_ss_add w (mO m271 [] []) c N D (by omega) Tm271 (m3.1 207) (r32 (by omega) (by omega)) (show (m271.1 221) ≤ 15 by rewrite [(show (m271.1 221) = (m.1 221) from ((fr1 Fm271 221 rfl).trans (fr1 Fm3 221 rfl)))]; omega) (show 0 ≤ (m3.1 207) ∧ (m3.1 207) ≤ 4001 by omega)) (fun rr281 k282 => ?_)
          obtain ⟨m283, sa, Tm283, Fm283, g284, h285, h286, h287, rfl⟩ := k282
          refine Or.inl ⟨_, _, _, _, rfl, ?_⟩
          refine K_nb (st' := [.int (i32 sa)]) rfl ?_
          obtain ⟨g284a, g284b⟩ := g284
          have g288 : 0 ≤ m283.1 221 ∧ m283.1 221 ≤ 16 := Tm283.1 221
          replace h285 : sa = (m271.1 221) := h285
          rewrite [(show (m271.1 221) = (m.1 221) from ((fr1 Fm271 221 rfl).trans (fr1 Fm3 221 rfl)))] at h285
          replace h286 : (m283.1 221) = (m271.1 221) + 1 := h286
          rewrite [(show (m271.1 221) = (m.1 221) from ((fr1 Fm271 221 rfl).trans (fr1 Fm3 221 rfl)))] at h286
          replace h287 : (m283.2 36) = upI (m271.2 36) (m271.1 221) (-1) := h287
          rewrite [(show (m271.2 36) = (m.2 36) from ((fr2 Fm271 36 rfl).trans (fr2 Fm3 36 rfl))), (show (m271.1 221) = (m.1 221) from ((fr1 Fm271 221 rfl).trans (fr1 Fm3 221 rfl)))] at h287
          have hSa := h287
          have pKP : KPp (m271.1 203) (m271.2 8) (m271.2 9) (m.1 214) (m.1 215) (m.1 216) (m.1 217) (m283.1 221) (m.1 223) (m.1 219) := KPp_mk pKP hMk (by omega) (by omega) (by omega) (by omega) (by omega) (by omega) (by omega) (by omega)
          have hSS : SSp (m.1 222) (m283.2 36) (m283.1 221) := SS_add hSS (by omega) hSa (by omega)
          refine T_sto 104 [(2, .int (i32 sa)), (1, .int (i32 (m3.1 207))), (0, .ref 178)] rfl (fun _ => rfl) ?_
          refine Tm_lv (a := [(0, .ref 178), (1, .int (i32 (m3.1 207))), (2, .int (i32 sa))]) rfl rfl ⟨rfl, rfl, rfl, trivial⟩ ?_
          exact J104_12 sa (mO m283 [] []) (r32 (by omega) (by omega)) Tm283 (fr_m (fr_s Fm283 (fr_m (fr_s Fm271 (fr_m fr_0 rfl rfl) rfl rfl) rfl rfl) rfl rfl) rfl rfl) (show KPp (m283.1 203) (m283.2 8) (m283.2 9) (m.1 214) (m.1 215) (m.1 216) (m.1 217) (m283.1 221) (m.1 223) (m.1 219) by rewrite [(show (m283.1 203) = (m271.1 203) from (fr1 Fm283 203 rfl)), (show (m283.2 8) = (m271.2 8) from (fr2 Fm283 8 rfl)), (show (m283.2 9) = (m271.2 9) from (fr2 Fm283 9 rfl))]; exact pKP) (show SSp (m.1 222) (m283.2 36) (m283.1 221) by exact hSS) (show 0 ≤ sa ∧ sa < (m283.1 221) by omega) (show (m283.2 36) sa = -1 by first | omega | exact up_at hSa (by omega))
        · skip
          have hkn := KNo_w pKP (hIo.elim (fun h => absurd h (by omega)) (fun h => h))
          refine T_ld 67 (.ref 178) rfl (fun _ => rfl) ?_
          refine K_gf 70 (.ref 6) rfl rfl kd_178 rfl rfl rfl ?_
          refine T_callx 73 50 [.ref 6] [] rfl (fun _ => rfl) rfl rfl (c_tx_advance w (mO m3 [] []) c N D (by omega) Tm3 ) (fun rr289 k290 => ?_)
          rcases k290 with ⟨m291, Tm291, Fm291, h292, rfl⟩ | ⟨xx295, m293, hx294, Tm293, Fm293, rfl⟩
          rotate_left
          · skip
            refine Or.inr ⟨_, _, _, _, rfl, ?_⟩
            exact Or.inr ⟨xx295, (mO m293 [] []), (hx294), Tm293, (fr_m (fr_s Fm293 (fr_m (fr_s Fm3 (fr_m fr_0 rfl rfl) rfl rfl) rfl rfl) rfl rfl) rfl rfl), (show NKp (m293.2 18) (m293.2 19) by rewrite [(show (m293.2 18) = (m.2 18) from ((fr2 Fm293 18 rfl).trans (fr2 Fm3 18 rfl))), (show (m293.2 19) = (m.2 19) from ((fr2 Fm293 19 rfl).trans (fr2 Fm3 19 rfl)))]; exact hNK), rfl⟩
          refine Or.inl ⟨_, _, _, _, rfl, ?_⟩
          refine K_nb (st' := []) rfl ?_
          have g296 : (-1) ≤ m291.1 206 ∧ m291.1 206 ≤ 65535 := Tm291.1 206
          have g297 : 0 ≤ m291.1 207 ∧ m291.1 207 ≤ 4001 := Tm291.1 207
          replace h292 : (m3.1 213) = 0 := h292
          rewrite [(show (m3.1 213) = (m.1 213) from (fr1 Fm3 213 rfl))] at h292
          refine T_goto 104 rfl (fun _ => rfl) ?_
          refine Tm_lv (a := [(0, .ref 178), (1, .int (i32 (m3.1 207))), (2, .int (i32 io))]) rfl rfl ⟨rfl, rfl, rfl, trivial⟩ ?_
          exact J104_12 io (mO m291 [] []) (r32 (by omega) (by omega)) Tm291 (fr_m (fr_s Fm291 (fr_m fr_0 rfl rfl) rfl rfl) rfl rfl) (show KPp (m291.1 203) (m291.2 8) (m291.2 9) (m.1 214) (m.1 215) (m.1 216) (m.1 217) (m291.1 221) (m.1 223) (m.1 219) by rewrite [(show (m291.1 203) = (m.1 203) from ((fr1 Fm291 203 rfl).trans (fr1 Fm3 203 rfl))), (show (m291.2 8) = (m.2 8) from ((fr2 Fm291 8 rfl).trans (fr2 Fm3 8 rfl))), (show (m291.2 9) = (m.2 9) from ((fr2 Fm291 9 rfl).trans (fr2 Fm3 9 rfl))), (show (m291.1 221) = (m.1 221) from ((fr1 Fm291 221 rfl).trans (fr1 Fm3 221 rfl)))]; exact pKP) (show SSp (m.1 222) (m291.2 36) (m291.1 221) by rewrite [(show (m291.2 36) = (m.2 36) from ((fr2 Fm291 36 rfl).trans (fr2 Fm3 36 rfl))), (show (m291.1 221) = (m.1 221) from ((fr1 Fm291 221 rfl).trans (fr1 Fm3 221 rfl)))]; exact hSS) (show 0 ≤ io ∧ io < (m291.1 221) by rewrite [(show (m291.1 221) = (m.1 221) from ((fr1 Fm291 221 rfl).trans (fr1 Fm3 221 rfl)))]; omega) (show (m291.2 36) io = -1 by rewrite [(show (m291.2 36) = (m.2 36) from ((fr2 Fm291 36 rfl).trans (fr2 Fm3 36 rfl)))]; first | omega | exact up_at hSa (by omega))
